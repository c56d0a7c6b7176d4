/-! FairLabelsModel: its methods step by step (printed by wip/whole/gen_steps.py) -/
section
variable {rom : List (List Int32)} {K : Nat → List Value → ab_H → Option ab_O} {ls st : List Value} {hp : ab_H} {x y z : Int32} {a a2 : Nat} {sp dp : Int32} {u w : Int64} {v0 v1 v2 v3 v4 v5 v6 v7 v8 v9 v10 v11 v12 v13 v14 v15 w1 w2 w3 w4 w5 w6 : Value}
theorem tX9_init : ab_mT[130]? = some (yX9_init, cX9_init, 1, 3, 7) := by decide +kernel
theorem mX9_init {d : Nat} {a0 : Nat} : ab_M rom (d + 1) 130 [.ref a0] hp = ab_X rom (ab_M rom d) cX9_init 7 3 0 [.ref a0] [] hp := ab_M_eq tX9_init (Nat.le_of_ble_eq_true rfl)
theorem dX9_init_0 : decode cX9_init 0 = .ok (.aload_n 0, 1) := by decide +kernel
theorem sX9_init_0 : ab_X rom K cX9_init 7 3 0 (.ref a :: ls) st hp = ab_X rom K cX9_init 7 3 1 (.ref a :: ls) (.ref a :: st) hp := ax_aload_n dX9_init_0 rfl rfl
theorem dX9_init_1 : decode cX9_init 1 = .ok (.invokespecial 1, 3) := by decide +kernel
theorem sX9_init_1_0 : ab_X rom K cX9_init 7 3 1 ls [.ref a] hp = ab_X rom K cX9_init 7 3 4 ls [] hp := ax_obj dX9_init_1 kc_7_1 rfl (Nat.le_of_ble_eq_true rfl)
theorem sX9_init_1_1 : ab_X rom K cX9_init 7 3 1 ls [.ref a, v0] hp = ab_X rom K cX9_init 7 3 4 ls [v0] hp := ax_obj dX9_init_1 kc_7_1 rfl (Nat.le_of_ble_eq_true rfl)
theorem sX9_init_1_2 : ab_X rom K cX9_init 7 3 1 ls [.ref a, v0, v1] hp = ab_X rom K cX9_init 7 3 4 ls [v0, v1] hp := ax_obj dX9_init_1 kc_7_1 rfl (Nat.le_of_ble_eq_true rfl)
theorem sX9_init_1_3 : ab_X rom K cX9_init 7 3 1 ls [.ref a, v0, v1, v2] hp = ab_X rom K cX9_init 7 3 4 ls [v0, v1, v2] hp := ax_obj dX9_init_1 kc_7_1 rfl (Nat.le_of_ble_eq_true rfl)
theorem dX9_init_4 : decode cX9_init 4 = .ok (.aload_n 0, 1) := by decide +kernel
theorem sX9_init_4 : ab_X rom K cX9_init 7 3 4 (.ref a :: ls) st hp = ab_X rom K cX9_init 7 3 5 (.ref a :: ls) (.ref a :: st) hp := ax_aload_n dX9_init_4 rfl rfl
theorem dX9_init_5 : decode cX9_init 5 = .ok (.bipush 45, 2) := by decide +kernel
theorem sX9_init_5 : ab_X rom K cX9_init 7 3 5 ls st hp = ab_X rom K cX9_init 7 3 7 ls (.int 45 :: st) hp := ax_bipush dX9_init_5 (by decide) rfl
theorem dX9_init_7 : decode cX9_init 7 = .ok (.newarray .int, 2) := by decide +kernel
theorem sX9_init_7 : ab_X rom K cX9_init 7 3 7 ls (.int x :: st) hp = if ¬ x < 0 ∧ x.toNatClampNeg ≤ 1000 ∧ hp.length < ab_RO then ab_X rom K cX9_init 7 3 9 ls (.ref hp.length :: st) (hp ++ [.inl (0, List.replicate x.toNatClampNeg 0)]) else none := ay_newint dX9_init_7 rfl
theorem dX9_init_9 : decode cX9_init 9 = .ok (.putfield 7, 3) := by decide +kernel
theorem sX9_init_9 : ab_X rom K cX9_init 7 3 9 ls (.ref a2 :: .ref a :: st) hp = (ab_fpt hp a 7 0 (.ref a2)).bind (fun hp' => ab_X rom K cX9_init 7 3 12 ls st hp') := ax_putfield dX9_init_9 kf_7_7 rfl (Or.inr ⟨rfl, rfl⟩) rfl
theorem dX9_init_12 : decode cX9_init 12 = .ok (.aload_n 0, 1) := by decide +kernel
theorem sX9_init_12 : ab_X rom K cX9_init 7 3 12 (.ref a :: ls) st hp = ab_X rom K cX9_init 7 3 13 (.ref a :: ls) (.ref a :: st) hp := ax_aload_n dX9_init_12 rfl rfl
theorem dX9_init_13 : decode cX9_init 13 = .ok (.bipush 45, 2) := by decide +kernel
theorem sX9_init_13 : ab_X rom K cX9_init 7 3 13 ls st hp = ab_X rom K cX9_init 7 3 15 ls (.int 45 :: st) hp := ax_bipush dX9_init_13 (by decide) rfl
theorem dX9_init_15 : decode cX9_init 15 = .ok (.newarray .int, 2) := by decide +kernel
theorem sX9_init_15 : ab_X rom K cX9_init 7 3 15 ls (.int x :: st) hp = if ¬ x < 0 ∧ x.toNatClampNeg ≤ 1000 ∧ hp.length < ab_RO then ab_X rom K cX9_init 7 3 17 ls (.ref hp.length :: st) (hp ++ [.inl (0, List.replicate x.toNatClampNeg 0)]) else none := ay_newint dX9_init_15 rfl
theorem dX9_init_17 : decode cX9_init 17 = .ok (.putfield 13, 3) := by decide +kernel
theorem sX9_init_17 : ab_X rom K cX9_init 7 3 17 ls (.ref a2 :: .ref a :: st) hp = (ab_fpt hp a 7 1 (.ref a2)).bind (fun hp' => ab_X rom K cX9_init 7 3 20 ls st hp') := ax_putfield dX9_init_17 kf_7_13 rfl (Or.inr ⟨rfl, rfl⟩) rfl
theorem dX9_init_20 : decode cX9_init 20 = .ok (.aload_n 0, 1) := by decide +kernel
theorem sX9_init_20 : ab_X rom K cX9_init 7 3 20 (.ref a :: ls) st hp = ab_X rom K cX9_init 7 3 21 (.ref a :: ls) (.ref a :: st) hp := ax_aload_n dX9_init_20 rfl rfl
theorem dX9_init_21 : decode cX9_init 21 = .ok (.sipush 450, 3) := by decide +kernel
theorem sX9_init_21 : ab_X rom K cX9_init 7 3 21 ls st hp = ab_X rom K cX9_init 7 3 24 ls (.int 450 :: st) hp := ax_sipush dX9_init_21 (by decide) rfl
theorem dX9_init_24 : decode cX9_init 24 = .ok (.newarray .int, 2) := by decide +kernel
theorem sX9_init_24 : ab_X rom K cX9_init 7 3 24 ls (.int x :: st) hp = if ¬ x < 0 ∧ x.toNatClampNeg ≤ 1000 ∧ hp.length < ab_RO then ab_X rom K cX9_init 7 3 26 ls (.ref hp.length :: st) (hp ++ [.inl (0, List.replicate x.toNatClampNeg 0)]) else none := ay_newint dX9_init_24 rfl
theorem dX9_init_26 : decode cX9_init 26 = .ok (.putfield 16, 3) := by decide +kernel
theorem sX9_init_26 : ab_X rom K cX9_init 7 3 26 ls (.ref a2 :: .ref a :: st) hp = (ab_fpt hp a 7 2 (.ref a2)).bind (fun hp' => ab_X rom K cX9_init 7 3 29 ls st hp') := ax_putfield dX9_init_26 kf_7_16 rfl (Or.inr ⟨rfl, rfl⟩) rfl
theorem dX9_init_29 : decode cX9_init 29 = .ok (.aload_n 0, 1) := by decide +kernel
theorem sX9_init_29 : ab_X rom K cX9_init 7 3 29 (.ref a :: ls) st hp = ab_X rom K cX9_init 7 3 30 (.ref a :: ls) (.ref a :: st) hp := ax_aload_n dX9_init_29 rfl rfl
theorem dX9_init_30 : decode cX9_init 30 = .ok (.sipush 400, 3) := by decide +kernel
theorem sX9_init_30 : ab_X rom K cX9_init 7 3 30 ls st hp = ab_X rom K cX9_init 7 3 33 ls (.int 400 :: st) hp := ax_sipush dX9_init_30 (by decide) rfl
theorem dX9_init_33 : decode cX9_init 33 = .ok (.newarray .int, 2) := by decide +kernel
theorem sX9_init_33 : ab_X rom K cX9_init 7 3 33 ls (.int x :: st) hp = if ¬ x < 0 ∧ x.toNatClampNeg ≤ 1000 ∧ hp.length < ab_RO then ab_X rom K cX9_init 7 3 35 ls (.ref hp.length :: st) (hp ++ [.inl (0, List.replicate x.toNatClampNeg 0)]) else none := ay_newint dX9_init_33 rfl
theorem dX9_init_35 : decode cX9_init 35 = .ok (.putfield 19, 3) := by decide +kernel
theorem sX9_init_35 : ab_X rom K cX9_init 7 3 35 ls (.ref a2 :: .ref a :: st) hp = (ab_fpt hp a 7 4 (.ref a2)).bind (fun hp' => ab_X rom K cX9_init 7 3 38 ls st hp') := ax_putfield dX9_init_35 kf_7_19 rfl (Or.inr ⟨rfl, rfl⟩) rfl
theorem dX9_init_38 : decode cX9_init 38 = .ok (.aload_n 0, 1) := by decide +kernel
theorem sX9_init_38 : ab_X rom K cX9_init 7 3 38 (.ref a :: ls) st hp = ab_X rom K cX9_init 7 3 39 (.ref a :: ls) (.ref a :: st) hp := ax_aload_n dX9_init_38 rfl rfl
theorem dX9_init_39 : decode cX9_init 39 = .ok (.iconst (-1), 1) := by decide +kernel
theorem sX9_init_39 : ab_X rom K cX9_init 7 3 39 ls st hp = ab_X rom K cX9_init 7 3 40 ls (.int (-1) :: st) hp := ax_iconst dX9_init_39 (by decide) rfl
theorem dX9_init_40 : decode cX9_init 40 = .ok (.putfield 22, 3) := by decide +kernel
theorem sX9_init_40 : ab_X rom K cX9_init 7 3 40 ls (.int x :: .ref a :: st) hp = (ab_fpt hp a 7 7 (.int x)).bind (fun hp' => ab_X rom K cX9_init 7 3 43 ls st hp') := ax_putfield dX9_init_40 kf_7_22 rfl (Or.inl rfl) rfl
theorem dX9_init_43 : decode cX9_init 43 = .ok (.aload_n 0, 1) := by decide +kernel
theorem sX9_init_43 : ab_X rom K cX9_init 7 3 43 (.ref a :: ls) st hp = ab_X rom K cX9_init 7 3 44 (.ref a :: ls) (.ref a :: st) hp := ax_aload_n dX9_init_43 rfl rfl
theorem dX9_init_44 : decode cX9_init 44 = .ok (.bipush 11, 2) := by decide +kernel
theorem sX9_init_44 : ab_X rom K cX9_init 7 3 44 ls st hp = ab_X rom K cX9_init 7 3 46 ls (.int 11 :: st) hp := ax_bipush dX9_init_44 (by decide) rfl
theorem dX9_init_46 : decode cX9_init 46 = .ok (.newarray .int, 2) := by decide +kernel
theorem sX9_init_46 : ab_X rom K cX9_init 7 3 46 ls (.int x :: st) hp = if ¬ x < 0 ∧ x.toNatClampNeg ≤ 1000 ∧ hp.length < ab_RO then ab_X rom K cX9_init 7 3 48 ls (.ref hp.length :: st) (hp ++ [.inl (0, List.replicate x.toNatClampNeg 0)]) else none := ay_newint dX9_init_46 rfl
theorem dX9_init_48 : decode cX9_init 48 = .ok (.putfield 26, 3) := by decide +kernel
theorem sX9_init_48 : ab_X rom K cX9_init 7 3 48 ls (.ref a2 :: .ref a :: st) hp = (ab_fpt hp a 7 13 (.ref a2)).bind (fun hp' => ab_X rom K cX9_init 7 3 51 ls st hp') := ax_putfield dX9_init_48 kf_7_26 rfl (Or.inr ⟨rfl, rfl⟩) rfl
theorem dX9_init_51 : decode cX9_init 51 = .ok (.aload_n 0, 1) := by decide +kernel
theorem sX9_init_51 : ab_X rom K cX9_init 7 3 51 (.ref a :: ls) st hp = ab_X rom K cX9_init 7 3 52 (.ref a :: ls) (.ref a :: st) hp := ax_aload_n dX9_init_51 rfl rfl
theorem dX9_init_52 : decode cX9_init 52 = .ok (.bipush 11, 2) := by decide +kernel
theorem sX9_init_52 : ab_X rom K cX9_init 7 3 52 ls st hp = ab_X rom K cX9_init 7 3 54 ls (.int 11 :: st) hp := ax_bipush dX9_init_52 (by decide) rfl
theorem dX9_init_54 : decode cX9_init 54 = .ok (.newarray .int, 2) := by decide +kernel
theorem sX9_init_54 : ab_X rom K cX9_init 7 3 54 ls (.int x :: st) hp = if ¬ x < 0 ∧ x.toNatClampNeg ≤ 1000 ∧ hp.length < ab_RO then ab_X rom K cX9_init 7 3 56 ls (.ref hp.length :: st) (hp ++ [.inl (0, List.replicate x.toNatClampNeg 0)]) else none := ay_newint dX9_init_54 rfl
theorem dX9_init_56 : decode cX9_init 56 = .ok (.putfield 29, 3) := by decide +kernel
theorem sX9_init_56 : ab_X rom K cX9_init 7 3 56 ls (.ref a2 :: .ref a :: st) hp = (ab_fpt hp a 7 14 (.ref a2)).bind (fun hp' => ab_X rom K cX9_init 7 3 59 ls st hp') := ax_putfield dX9_init_56 kf_7_29 rfl (Or.inr ⟨rfl, rfl⟩) rfl
theorem dX9_init_59 : decode cX9_init 59 = .ok (.aload_n 0, 1) := by decide +kernel
theorem sX9_init_59 : ab_X rom K cX9_init 7 3 59 (.ref a :: ls) st hp = ab_X rom K cX9_init 7 3 60 (.ref a :: ls) (.ref a :: st) hp := ax_aload_n dX9_init_59 rfl rfl
theorem dX9_init_60 : decode cX9_init 60 = .ok (.bipush 7, 2) := by decide +kernel
theorem sX9_init_60 : ab_X rom K cX9_init 7 3 60 ls st hp = ab_X rom K cX9_init 7 3 62 ls (.int 7 :: st) hp := ax_bipush dX9_init_60 (by decide) rfl
theorem dX9_init_62 : decode cX9_init 62 = .ok (.newarray .int, 2) := by decide +kernel
theorem sX9_init_62 : ab_X rom K cX9_init 7 3 62 ls (.int x :: st) hp = if ¬ x < 0 ∧ x.toNatClampNeg ≤ 1000 ∧ hp.length < ab_RO then ab_X rom K cX9_init 7 3 64 ls (.ref hp.length :: st) (hp ++ [.inl (0, List.replicate x.toNatClampNeg 0)]) else none := ay_newint dX9_init_62 rfl
theorem dX9_init_64 : decode cX9_init 64 = .ok (.putfield 32, 3) := by decide +kernel
theorem sX9_init_64 : ab_X rom K cX9_init 7 3 64 ls (.ref a2 :: .ref a :: st) hp = (ab_fpt hp a 7 16 (.ref a2)).bind (fun hp' => ab_X rom K cX9_init 7 3 67 ls st hp') := ax_putfield dX9_init_64 kf_7_32 rfl (Or.inr ⟨rfl, rfl⟩) rfl
theorem dX9_init_67 : decode cX9_init 67 = .ok (.aload_n 0, 1) := by decide +kernel
theorem sX9_init_67 : ab_X rom K cX9_init 7 3 67 (.ref a :: ls) st hp = ab_X rom K cX9_init 7 3 68 (.ref a :: ls) (.ref a :: st) hp := ax_aload_n dX9_init_67 rfl rfl
theorem dX9_init_68 : decode cX9_init 68 = .ok (.bipush 7, 2) := by decide +kernel
theorem sX9_init_68 : ab_X rom K cX9_init 7 3 68 ls st hp = ab_X rom K cX9_init 7 3 70 ls (.int 7 :: st) hp := ax_bipush dX9_init_68 (by decide) rfl
theorem dX9_init_70 : decode cX9_init 70 = .ok (.newarray .int, 2) := by decide +kernel
theorem sX9_init_70 : ab_X rom K cX9_init 7 3 70 ls (.int x :: st) hp = if ¬ x < 0 ∧ x.toNatClampNeg ≤ 1000 ∧ hp.length < ab_RO then ab_X rom K cX9_init 7 3 72 ls (.ref hp.length :: st) (hp ++ [.inl (0, List.replicate x.toNatClampNeg 0)]) else none := ay_newint dX9_init_70 rfl
theorem dX9_init_72 : decode cX9_init 72 = .ok (.putfield 35, 3) := by decide +kernel
theorem sX9_init_72 : ab_X rom K cX9_init 7 3 72 ls (.ref a2 :: .ref a :: st) hp = (ab_fpt hp a 7 19 (.ref a2)).bind (fun hp' => ab_X rom K cX9_init 7 3 75 ls st hp') := ax_putfield dX9_init_72 kf_7_35 rfl (Or.inr ⟨rfl, rfl⟩) rfl
theorem dX9_init_75 : decode cX9_init 75 = .ok (.aload_n 0, 1) := by decide +kernel
theorem sX9_init_75 : ab_X rom K cX9_init 7 3 75 (.ref a :: ls) st hp = ab_X rom K cX9_init 7 3 76 (.ref a :: ls) (.ref a :: st) hp := ax_aload_n dX9_init_75 rfl rfl
theorem dX9_init_76 : decode cX9_init 76 = .ok (.bipush 7, 2) := by decide +kernel
theorem sX9_init_76 : ab_X rom K cX9_init 7 3 76 ls st hp = ab_X rom K cX9_init 7 3 78 ls (.int 7 :: st) hp := ax_bipush dX9_init_76 (by decide) rfl
theorem dX9_init_78 : decode cX9_init 78 = .ok (.newarray .int, 2) := by decide +kernel
theorem sX9_init_78 : ab_X rom K cX9_init 7 3 78 ls (.int x :: st) hp = if ¬ x < 0 ∧ x.toNatClampNeg ≤ 1000 ∧ hp.length < ab_RO then ab_X rom K cX9_init 7 3 80 ls (.ref hp.length :: st) (hp ++ [.inl (0, List.replicate x.toNatClampNeg 0)]) else none := ay_newint dX9_init_78 rfl
theorem dX9_init_80 : decode cX9_init 80 = .ok (.putfield 38, 3) := by decide +kernel
theorem sX9_init_80 : ab_X rom K cX9_init 7 3 80 ls (.ref a2 :: .ref a :: st) hp = (ab_fpt hp a 7 20 (.ref a2)).bind (fun hp' => ab_X rom K cX9_init 7 3 83 ls st hp') := ax_putfield dX9_init_80 kf_7_38 rfl (Or.inr ⟨rfl, rfl⟩) rfl
theorem dX9_init_83 : decode cX9_init 83 = .ok (.aload_n 0, 1) := by decide +kernel
theorem sX9_init_83 : ab_X rom K cX9_init 7 3 83 (.ref a :: ls) st hp = ab_X rom K cX9_init 7 3 84 (.ref a :: ls) (.ref a :: st) hp := ax_aload_n dX9_init_83 rfl rfl
theorem dX9_init_84 : decode cX9_init 84 = .ok (.bipush 15, 2) := by decide +kernel
theorem sX9_init_84 : ab_X rom K cX9_init 7 3 84 ls st hp = ab_X rom K cX9_init 7 3 86 ls (.int 15 :: st) hp := ax_bipush dX9_init_84 (by decide) rfl
theorem dX9_init_86 : decode cX9_init 86 = .ok (.newarray .int, 2) := by decide +kernel
theorem sX9_init_86 : ab_X rom K cX9_init 7 3 86 ls (.int x :: st) hp = if ¬ x < 0 ∧ x.toNatClampNeg ≤ 1000 ∧ hp.length < ab_RO then ab_X rom K cX9_init 7 3 88 ls (.ref hp.length :: st) (hp ++ [.inl (0, List.replicate x.toNatClampNeg 0)]) else none := ay_newint dX9_init_86 rfl
theorem dX9_init_88 : decode cX9_init 88 = .ok (.putfield 41, 3) := by decide +kernel
theorem sX9_init_88 : ab_X rom K cX9_init 7 3 88 ls (.ref a2 :: .ref a :: st) hp = (ab_fpt hp a 7 24 (.ref a2)).bind (fun hp' => ab_X rom K cX9_init 7 3 91 ls st hp') := ax_putfield dX9_init_88 kf_7_41 rfl (Or.inr ⟨rfl, rfl⟩) rfl
theorem dX9_init_91 : decode cX9_init 91 = .ok (.aload_n 0, 1) := by decide +kernel
theorem sX9_init_91 : ab_X rom K cX9_init 7 3 91 (.ref a :: ls) st hp = ab_X rom K cX9_init 7 3 92 (.ref a :: ls) (.ref a :: st) hp := ax_aload_n dX9_init_91 rfl rfl
theorem dX9_init_92 : decode cX9_init 92 = .ok (.bipush 12, 2) := by decide +kernel
theorem sX9_init_92 : ab_X rom K cX9_init 7 3 92 ls st hp = ab_X rom K cX9_init 7 3 94 ls (.int 12 :: st) hp := ax_bipush dX9_init_92 (by decide) rfl
theorem dX9_init_94 : decode cX9_init 94 = .ok (.newarray .int, 2) := by decide +kernel
theorem sX9_init_94 : ab_X rom K cX9_init 7 3 94 ls (.int x :: st) hp = if ¬ x < 0 ∧ x.toNatClampNeg ≤ 1000 ∧ hp.length < ab_RO then ab_X rom K cX9_init 7 3 96 ls (.ref hp.length :: st) (hp ++ [.inl (0, List.replicate x.toNatClampNeg 0)]) else none := ay_newint dX9_init_94 rfl
theorem dX9_init_96 : decode cX9_init 96 = .ok (.putfield 44, 3) := by decide +kernel
theorem sX9_init_96 : ab_X rom K cX9_init 7 3 96 ls (.ref a2 :: .ref a :: st) hp = (ab_fpt hp a 7 25 (.ref a2)).bind (fun hp' => ab_X rom K cX9_init 7 3 99 ls st hp') := ax_putfield dX9_init_96 kf_7_44 rfl (Or.inr ⟨rfl, rfl⟩) rfl
theorem dX9_init_99 : decode cX9_init 99 = .ok (.aload_n 0, 1) := by decide +kernel
theorem sX9_init_99 : ab_X rom K cX9_init 7 3 99 (.ref a :: ls) st hp = ab_X rom K cX9_init 7 3 100 (.ref a :: ls) (.ref a :: st) hp := ax_aload_n dX9_init_99 rfl rfl
theorem dX9_init_100 : decode cX9_init 100 = .ok (.sipush 256, 3) := by decide +kernel
theorem sX9_init_100 : ab_X rom K cX9_init 7 3 100 ls st hp = ab_X rom K cX9_init 7 3 103 ls (.int 256 :: st) hp := ax_sipush dX9_init_100 (by decide) rfl
theorem dX9_init_103 : decode cX9_init 103 = .ok (.newarray .boolean, 2) := by decide +kernel
theorem sX9_init_103 : ab_X rom K cX9_init 7 3 103 ls (.int x :: st) hp = if ¬ x < 0 ∧ x.toNatClampNeg ≤ 1000 ∧ hp.length < ab_RO then ab_X rom K cX9_init 7 3 105 ls (.ref hp.length :: st) (hp ++ [.inl (1, List.replicate x.toNatClampNeg 0)]) else none := ay_newbool dX9_init_103 rfl
theorem dX9_init_105 : decode cX9_init 105 = .ok (.putfield 47, 3) := by decide +kernel
theorem sX9_init_105 : ab_X rom K cX9_init 7 3 105 ls (.ref a2 :: .ref a :: st) hp = (ab_fpt hp a 7 26 (.ref a2)).bind (fun hp' => ab_X rom K cX9_init 7 3 108 ls st hp') := ax_putfield dX9_init_105 kf_7_47 rfl (Or.inr ⟨rfl, rfl⟩) rfl
theorem dX9_init_108 : decode cX9_init 108 = .ok (.aload_n 0, 1) := by decide +kernel
theorem sX9_init_108 : ab_X rom K cX9_init 7 3 108 (.ref a :: ls) st hp = ab_X rom K cX9_init 7 3 109 (.ref a :: ls) (.ref a :: st) hp := ax_aload_n dX9_init_108 rfl rfl
theorem dX9_init_109 : decode cX9_init 109 = .ok (.bipush 120, 2) := by decide +kernel
theorem sX9_init_109 : ab_X rom K cX9_init 7 3 109 ls st hp = ab_X rom K cX9_init 7 3 111 ls (.int 120 :: st) hp := ax_bipush dX9_init_109 (by decide) rfl
theorem dX9_init_111 : decode cX9_init 111 = .ok (.newarray .int, 2) := by decide +kernel
theorem sX9_init_111 : ab_X rom K cX9_init 7 3 111 ls (.int x :: st) hp = if ¬ x < 0 ∧ x.toNatClampNeg ≤ 1000 ∧ hp.length < ab_RO then ab_X rom K cX9_init 7 3 113 ls (.ref hp.length :: st) (hp ++ [.inl (0, List.replicate x.toNatClampNeg 0)]) else none := ay_newint dX9_init_111 rfl
theorem dX9_init_113 : decode cX9_init 113 = .ok (.putfield 51, 3) := by decide +kernel
theorem sX9_init_113 : ab_X rom K cX9_init 7 3 113 ls (.ref a2 :: .ref a :: st) hp = (ab_fpt hp a 7 27 (.ref a2)).bind (fun hp' => ab_X rom K cX9_init 7 3 116 ls st hp') := ax_putfield dX9_init_113 kf_7_51 rfl (Or.inr ⟨rfl, rfl⟩) rfl
theorem dX9_init_116 : decode cX9_init 116 = .ok (.return_, 1) := by decide +kernel
theorem sX9_init_116 : ab_X rom K cX9_init 7 3 116 ls [] hp = some (none, hp) := ax_vret dX9_init_116 (by decide)
theorem tX9_adds : ab_mT[131]? = some (yX9_adds, cX9_adds, 4, 1, 7) := by decide +kernel
theorem mX9_adds {d : Nat} {a0 : Nat} {x0 : Int32} {x1 : Int32} {x2 : Int32} : ab_M rom (d + 1) 131 [.ref a0, .int x0, .int x1, .int x2] hp = ab_X rom (ab_M rom d) cX9_adds 7 1 0 [.ref a0, .int x0, .int x1, .int x2] [] hp := ab_M_eq tX9_adds (Nat.le_of_ble_eq_true rfl)
theorem dX9_adds_0 : decode cX9_adds 0 = .ok (.aload_n 0, 1) := by decide +kernel
theorem sX9_adds_0 : ab_X rom K cX9_adds 7 1 0 (.ref a :: ls) st hp = ab_X rom K cX9_adds 7 1 1 (.ref a :: ls) (.ref a :: st) hp := ax_aload_n dX9_adds_0 rfl rfl
theorem dX9_adds_1 : decode cX9_adds 1 = .ok (.iload_n 1, 1) := by decide +kernel
theorem sX9_adds_1 : ab_X rom K cX9_adds 7 1 1 (v0 :: .int x :: ls) st hp = ab_X rom K cX9_adds 7 1 2 (v0 :: .int x :: ls) (.int x :: st) hp := ax_iload_n dX9_adds_1 rfl rfl
theorem dX9_adds_2 : decode cX9_adds 2 = .ok (.iload_n 2, 1) := by decide +kernel
theorem sX9_adds_2 : ab_X rom K cX9_adds 7 1 2 (v0 :: v1 :: .int x :: ls) st hp = ab_X rom K cX9_adds 7 1 3 (v0 :: v1 :: .int x :: ls) (.int x :: st) hp := ax_iload_n dX9_adds_2 rfl rfl
theorem dX9_adds_3 : decode cX9_adds 3 = .ok (.invokevirtual 216, 3) := by decide +kernel
theorem sX9_adds_3_0 : ab_X rom K cX9_adds 7 1 3 ls [w2, w1, .ref a] hp = if ab_iso hp a 7 = true then (K 173 (.ref a :: [w1, w2]) hp).bind (fun o => ab_X rom K cX9_adds 7 1 6 ls (o.1.toList ++ []) o.2) else none := ay_virtual (as := [w1, w2]) (st := []) dX9_adds_3 kc_7_216 rfl rfl (Nat.le_of_ble_eq_true rfl)
theorem sX9_adds_3_1 : ab_X rom K cX9_adds 7 1 3 ls [w2, w1, .ref a, v0] hp = if ab_iso hp a 7 = true then (K 173 (.ref a :: [w1, w2]) hp).bind (fun o => ab_X rom K cX9_adds 7 1 6 ls (o.1.toList ++ [v0]) o.2) else none := ay_virtual (as := [w1, w2]) (st := [v0]) dX9_adds_3 kc_7_216 rfl rfl (Nat.le_of_ble_eq_true rfl)
theorem sX9_adds_3_2 : ab_X rom K cX9_adds 7 1 3 ls [w2, w1, .ref a, v0, v1] hp = if ab_iso hp a 7 = true then (K 173 (.ref a :: [w1, w2]) hp).bind (fun o => ab_X rom K cX9_adds 7 1 6 ls (o.1.toList ++ [v0, v1]) o.2) else none := ay_virtual (as := [w1, w2]) (st := [v0, v1]) dX9_adds_3 kc_7_216 rfl rfl (Nat.le_of_ble_eq_true rfl)
theorem sX9_adds_3_3 : ab_X rom K cX9_adds 7 1 3 ls [w2, w1, .ref a, v0, v1, v2] hp = if ab_iso hp a 7 = true then (K 173 (.ref a :: [w1, w2]) hp).bind (fun o => ab_X rom K cX9_adds 7 1 6 ls (o.1.toList ++ [v0, v1, v2]) o.2) else none := ay_virtual (as := [w1, w2]) (st := [v0, v1, v2]) dX9_adds_3 kc_7_216 rfl rfl (Nat.le_of_ble_eq_true rfl)
theorem dX9_adds_6 : decode cX9_adds 6 = .ok (.ifCond .eq 17, 3) := by decide +kernel
theorem sX9_adds_6 : ab_X rom K cX9_adds 7 1 6 ls (.int x :: st) hp = if x = 0 then ab_X rom K cX9_adds 7 1 23 ls st hp else ab_X rom K cX9_adds 7 1 9 ls st hp := ax_if_eq dX9_adds_6 (by decide) rfl
theorem dX9_adds_9 : decode cX9_adds 9 = .ok (.aload_n 0, 1) := by decide +kernel
theorem sX9_adds_9 : ab_X rom K cX9_adds 7 1 9 (.ref a :: ls) st hp = ab_X rom K cX9_adds 7 1 10 (.ref a :: ls) (.ref a :: st) hp := ax_aload_n dX9_adds_9 rfl rfl
theorem dX9_adds_10 : decode cX9_adds 10 = .ok (.iload_n 1, 1) := by decide +kernel
theorem sX9_adds_10 : ab_X rom K cX9_adds 7 1 10 (v0 :: .int x :: ls) st hp = ab_X rom K cX9_adds 7 1 11 (v0 :: .int x :: ls) (.int x :: st) hp := ax_iload_n dX9_adds_10 rfl rfl
theorem dX9_adds_11 : decode cX9_adds 11 = .ok (.iload_n 3, 1) := by decide +kernel
theorem sX9_adds_11 : ab_X rom K cX9_adds 7 1 11 (v0 :: v1 :: v2 :: .int x :: ls) st hp = ab_X rom K cX9_adds 7 1 12 (v0 :: v1 :: v2 :: .int x :: ls) (.int x :: st) hp := ax_iload_n dX9_adds_11 rfl rfl
theorem dX9_adds_12 : decode cX9_adds 12 = .ok (.invokevirtual 216, 3) := by decide +kernel
theorem sX9_adds_12_0 : ab_X rom K cX9_adds 7 1 12 ls [w2, w1, .ref a] hp = if ab_iso hp a 7 = true then (K 173 (.ref a :: [w1, w2]) hp).bind (fun o => ab_X rom K cX9_adds 7 1 15 ls (o.1.toList ++ []) o.2) else none := ay_virtual (as := [w1, w2]) (st := []) dX9_adds_12 kc_7_216 rfl rfl (Nat.le_of_ble_eq_true rfl)
theorem sX9_adds_12_1 : ab_X rom K cX9_adds 7 1 12 ls [w2, w1, .ref a, v0] hp = if ab_iso hp a 7 = true then (K 173 (.ref a :: [w1, w2]) hp).bind (fun o => ab_X rom K cX9_adds 7 1 15 ls (o.1.toList ++ [v0]) o.2) else none := ay_virtual (as := [w1, w2]) (st := [v0]) dX9_adds_12 kc_7_216 rfl rfl (Nat.le_of_ble_eq_true rfl)
theorem sX9_adds_12_2 : ab_X rom K cX9_adds 7 1 12 ls [w2, w1, .ref a, v0, v1] hp = if ab_iso hp a 7 = true then (K 173 (.ref a :: [w1, w2]) hp).bind (fun o => ab_X rom K cX9_adds 7 1 15 ls (o.1.toList ++ [v0, v1]) o.2) else none := ay_virtual (as := [w1, w2]) (st := [v0, v1]) dX9_adds_12 kc_7_216 rfl rfl (Nat.le_of_ble_eq_true rfl)
theorem sX9_adds_12_3 : ab_X rom K cX9_adds 7 1 12 ls [w2, w1, .ref a, v0, v1, v2] hp = if ab_iso hp a 7 = true then (K 173 (.ref a :: [w1, w2]) hp).bind (fun o => ab_X rom K cX9_adds 7 1 15 ls (o.1.toList ++ [v0, v1, v2]) o.2) else none := ay_virtual (as := [w1, w2]) (st := [v0, v1, v2]) dX9_adds_12 kc_7_216 rfl rfl (Nat.le_of_ble_eq_true rfl)
theorem dX9_adds_15 : decode cX9_adds 15 = .ok (.ifCond .eq 8, 3) := by decide +kernel
theorem sX9_adds_15 : ab_X rom K cX9_adds 7 1 15 ls (.int x :: st) hp = if x = 0 then ab_X rom K cX9_adds 7 1 23 ls st hp else ab_X rom K cX9_adds 7 1 18 ls st hp := ax_if_eq dX9_adds_15 (by decide) rfl
theorem dX9_adds_18 : decode cX9_adds 18 = .ok (.iload_n 2, 1) := by decide +kernel
theorem sX9_adds_18 : ab_X rom K cX9_adds 7 1 18 (v0 :: v1 :: .int x :: ls) st hp = ab_X rom K cX9_adds 7 1 19 (v0 :: v1 :: .int x :: ls) (.int x :: st) hp := ax_iload_n dX9_adds_18 rfl rfl
theorem dX9_adds_19 : decode cX9_adds 19 = .ok (.iload_n 3, 1) := by decide +kernel
theorem sX9_adds_19 : ab_X rom K cX9_adds 7 1 19 (v0 :: v1 :: v2 :: .int x :: ls) st hp = ab_X rom K cX9_adds 7 1 20 (v0 :: v1 :: v2 :: .int x :: ls) (.int x :: st) hp := ax_iload_n dX9_adds_19 rfl rfl
theorem dX9_adds_20 : decode cX9_adds 20 = .ok (.if_icmp .ne 6, 3) := by decide +kernel
theorem sX9_adds_20 : ab_X rom K cX9_adds 7 1 20 ls (.int y :: .int x :: st) hp = if x = y then ab_X rom K cX9_adds 7 1 23 ls st hp else ab_X rom K cX9_adds 7 1 26 ls st hp := ax_icmp_ne dX9_adds_20 (by decide) rfl
theorem dX9_adds_23 : decode cX9_adds 23 = .ok (.bipush (-2), 2) := by decide +kernel
theorem sX9_adds_23 : ab_X rom K cX9_adds 7 1 23 ls st hp = ab_X rom K cX9_adds 7 1 25 ls (.int (-2) :: st) hp := ax_bipush dX9_adds_23 (by decide) rfl
theorem dX9_adds_25 : decode cX9_adds 25 = .ok (.ireturn, 1) := by decide +kernel
theorem sX9_adds_25 : ab_X rom K cX9_adds 7 1 25 ls [.int x] hp = some (some (.int x), hp) := ax_iret dX9_adds_25 rfl
theorem dX9_adds_26 : decode cX9_adds 26 = .ok (.aload_n 0, 1) := by decide +kernel
theorem sX9_adds_26 : ab_X rom K cX9_adds 7 1 26 (.ref a :: ls) st hp = ab_X rom K cX9_adds 7 1 27 (.ref a :: ls) (.ref a :: st) hp := ax_aload_n dX9_adds_26 rfl rfl
theorem dX9_adds_27 : decode cX9_adds 27 = .ok (.iload_n 1, 1) := by decide +kernel
theorem sX9_adds_27 : ab_X rom K cX9_adds 7 1 27 (v0 :: .int x :: ls) st hp = ab_X rom K cX9_adds 7 1 28 (v0 :: .int x :: ls) (.int x :: st) hp := ax_iload_n dX9_adds_27 rfl rfl
theorem dX9_adds_28 : decode cX9_adds 28 = .ok (.iload_n 2, 1) := by decide +kernel
theorem sX9_adds_28 : ab_X rom K cX9_adds 7 1 28 (v0 :: v1 :: .int x :: ls) st hp = ab_X rom K cX9_adds 7 1 29 (v0 :: v1 :: .int x :: ls) (.int x :: st) hp := ax_iload_n dX9_adds_28 rfl rfl
theorem dX9_adds_29 : decode cX9_adds 29 = .ok (.iload_n 3, 1) := by decide +kernel
theorem sX9_adds_29 : ab_X rom K cX9_adds 7 1 29 (v0 :: v1 :: v2 :: .int x :: ls) st hp = ab_X rom K cX9_adds 7 1 30 (v0 :: v1 :: v2 :: .int x :: ls) (.int x :: st) hp := ax_iload_n dX9_adds_29 rfl rfl
theorem dX9_adds_30 : decode cX9_adds 30 = .ok (.invokevirtual 160, 3) := by decide +kernel
theorem sX9_adds_30_0 : ab_X rom K cX9_adds 7 1 30 ls [w3, w2, w1, .ref a] hp = if ab_iso hp a 7 = true then (K 135 (.ref a :: [w1, w2, w3]) hp).bind (fun o => ab_X rom K cX9_adds 7 1 33 ls (o.1.toList ++ []) o.2) else none := ay_virtual (as := [w1, w2, w3]) (st := []) dX9_adds_30 kc_7_160 rfl rfl (Nat.le_of_ble_eq_true rfl)
theorem sX9_adds_30_1 : ab_X rom K cX9_adds 7 1 30 ls [w3, w2, w1, .ref a, v0] hp = if ab_iso hp a 7 = true then (K 135 (.ref a :: [w1, w2, w3]) hp).bind (fun o => ab_X rom K cX9_adds 7 1 33 ls (o.1.toList ++ [v0]) o.2) else none := ay_virtual (as := [w1, w2, w3]) (st := [v0]) dX9_adds_30 kc_7_160 rfl rfl (Nat.le_of_ble_eq_true rfl)
theorem sX9_adds_30_2 : ab_X rom K cX9_adds 7 1 30 ls [w3, w2, w1, .ref a, v0, v1] hp = if ab_iso hp a 7 = true then (K 135 (.ref a :: [w1, w2, w3]) hp).bind (fun o => ab_X rom K cX9_adds 7 1 33 ls (o.1.toList ++ [v0, v1]) o.2) else none := ay_virtual (as := [w1, w2, w3]) (st := [v0, v1]) dX9_adds_30 kc_7_160 rfl rfl (Nat.le_of_ble_eq_true rfl)
theorem sX9_adds_30_3 : ab_X rom K cX9_adds 7 1 30 ls [w3, w2, w1, .ref a, v0, v1, v2] hp = if ab_iso hp a 7 = true then (K 135 (.ref a :: [w1, w2, w3]) hp).bind (fun o => ab_X rom K cX9_adds 7 1 33 ls (o.1.toList ++ [v0, v1, v2]) o.2) else none := ay_virtual (as := [w1, w2, w3]) (st := [v0, v1, v2]) dX9_adds_30 kc_7_160 rfl rfl (Nat.le_of_ble_eq_true rfl)
theorem dX9_adds_33 : decode cX9_adds 33 = .ok (.ifCond .ne 13, 3) := by decide +kernel
theorem sX9_adds_33 : ab_X rom K cX9_adds 7 1 33 ls (.int x :: st) hp = if x = 0 then ab_X rom K cX9_adds 7 1 36 ls st hp else ab_X rom K cX9_adds 7 1 46 ls st hp := ax_if_ne dX9_adds_33 (by decide) rfl
theorem dX9_adds_36 : decode cX9_adds 36 = .ok (.aload_n 0, 1) := by decide +kernel
theorem sX9_adds_36 : ab_X rom K cX9_adds 7 1 36 (.ref a :: ls) st hp = ab_X rom K cX9_adds 7 1 37 (.ref a :: ls) (.ref a :: st) hp := ax_aload_n dX9_adds_36 rfl rfl
theorem dX9_adds_37 : decode cX9_adds 37 = .ok (.iload_n 1, 1) := by decide +kernel
theorem sX9_adds_37 : ab_X rom K cX9_adds 7 1 37 (v0 :: .int x :: ls) st hp = ab_X rom K cX9_adds 7 1 38 (v0 :: .int x :: ls) (.int x :: st) hp := ax_iload_n dX9_adds_37 rfl rfl
theorem dX9_adds_38 : decode cX9_adds 38 = .ok (.invokevirtual 150, 3) := by decide +kernel
theorem sX9_adds_38_0 : ab_X rom K cX9_adds 7 1 38 ls [w1, .ref a] hp = if ab_iso hp a 7 = true then (K 188 (.ref a :: [w1]) hp).bind (fun o => ab_X rom K cX9_adds 7 1 41 ls (o.1.toList ++ []) o.2) else none := ay_virtual (as := [w1]) (st := []) dX9_adds_38 kc_7_150 rfl rfl (Nat.le_of_ble_eq_true rfl)
theorem sX9_adds_38_1 : ab_X rom K cX9_adds 7 1 38 ls [w1, .ref a, v0] hp = if ab_iso hp a 7 = true then (K 188 (.ref a :: [w1]) hp).bind (fun o => ab_X rom K cX9_adds 7 1 41 ls (o.1.toList ++ [v0]) o.2) else none := ay_virtual (as := [w1]) (st := [v0]) dX9_adds_38 kc_7_150 rfl rfl (Nat.le_of_ble_eq_true rfl)
theorem sX9_adds_38_2 : ab_X rom K cX9_adds 7 1 38 ls [w1, .ref a, v0, v1] hp = if ab_iso hp a 7 = true then (K 188 (.ref a :: [w1]) hp).bind (fun o => ab_X rom K cX9_adds 7 1 41 ls (o.1.toList ++ [v0, v1]) o.2) else none := ay_virtual (as := [w1]) (st := [v0, v1]) dX9_adds_38 kc_7_150 rfl rfl (Nat.le_of_ble_eq_true rfl)
theorem sX9_adds_38_3 : ab_X rom K cX9_adds 7 1 38 ls [w1, .ref a, v0, v1, v2] hp = if ab_iso hp a 7 = true then (K 188 (.ref a :: [w1]) hp).bind (fun o => ab_X rom K cX9_adds 7 1 41 ls (o.1.toList ++ [v0, v1, v2]) o.2) else none := ay_virtual (as := [w1]) (st := [v0, v1, v2]) dX9_adds_38 kc_7_150 rfl rfl (Nat.le_of_ble_eq_true rfl)
theorem dX9_adds_41 : decode cX9_adds 41 = .ok (.bipush 10, 2) := by decide +kernel
theorem sX9_adds_41 : ab_X rom K cX9_adds 7 1 41 ls st hp = ab_X rom K cX9_adds 7 1 43 ls (.int 10 :: st) hp := ax_bipush dX9_adds_41 (by decide) rfl
theorem dX9_adds_43 : decode cX9_adds 43 = .ok (.if_icmp .ne 6, 3) := by decide +kernel
theorem sX9_adds_43 : ab_X rom K cX9_adds 7 1 43 ls (.int y :: .int x :: st) hp = if x = y then ab_X rom K cX9_adds 7 1 46 ls st hp else ab_X rom K cX9_adds 7 1 49 ls st hp := ax_icmp_ne dX9_adds_43 (by decide) rfl
theorem dX9_adds_46 : decode cX9_adds 46 = .ok (.bipush (-5), 2) := by decide +kernel
theorem sX9_adds_46 : ab_X rom K cX9_adds 7 1 46 ls st hp = ab_X rom K cX9_adds 7 1 48 ls (.int (-5) :: st) hp := ax_bipush dX9_adds_46 (by decide) rfl
theorem dX9_adds_48 : decode cX9_adds 48 = .ok (.ireturn, 1) := by decide +kernel
theorem sX9_adds_48 : ab_X rom K cX9_adds 7 1 48 ls [.int x] hp = some (some (.int x), hp) := ax_iret dX9_adds_48 rfl
theorem dX9_adds_49 : decode cX9_adds 49 = .ok (.aload_n 0, 1) := by decide +kernel
theorem sX9_adds_49 : ab_X rom K cX9_adds 7 1 49 (.ref a :: ls) st hp = ab_X rom K cX9_adds 7 1 50 (.ref a :: ls) (.ref a :: st) hp := ax_aload_n dX9_adds_49 rfl rfl
theorem dX9_adds_50 : decode cX9_adds 50 = .ok (.invokevirtual 87, 3) := by decide +kernel
theorem sX9_adds_50_0 : ab_X rom K cX9_adds 7 1 50 ls [.ref a] hp = if ab_iso hp a 7 = true then (K 214 (.ref a :: []) hp).bind (fun o => ab_X rom K cX9_adds 7 1 53 ls (o.1.toList ++ []) o.2) else none := ay_virtual (as := []) (st := []) dX9_adds_50 kc_7_87 rfl rfl (Nat.le_of_ble_eq_true rfl)
theorem sX9_adds_50_1 : ab_X rom K cX9_adds 7 1 50 ls [.ref a, v0] hp = if ab_iso hp a 7 = true then (K 214 (.ref a :: []) hp).bind (fun o => ab_X rom K cX9_adds 7 1 53 ls (o.1.toList ++ [v0]) o.2) else none := ay_virtual (as := []) (st := [v0]) dX9_adds_50 kc_7_87 rfl rfl (Nat.le_of_ble_eq_true rfl)
theorem sX9_adds_50_2 : ab_X rom K cX9_adds 7 1 50 ls [.ref a, v0, v1] hp = if ab_iso hp a 7 = true then (K 214 (.ref a :: []) hp).bind (fun o => ab_X rom K cX9_adds 7 1 53 ls (o.1.toList ++ [v0, v1]) o.2) else none := ay_virtual (as := []) (st := [v0, v1]) dX9_adds_50 kc_7_87 rfl rfl (Nat.le_of_ble_eq_true rfl)
theorem sX9_adds_50_3 : ab_X rom K cX9_adds 7 1 50 ls [.ref a, v0, v1, v2] hp = if ab_iso hp a 7 = true then (K 214 (.ref a :: []) hp).bind (fun o => ab_X rom K cX9_adds 7 1 53 ls (o.1.toList ++ [v0, v1, v2]) o.2) else none := ay_virtual (as := []) (st := [v0, v1, v2]) dX9_adds_50 kc_7_87 rfl rfl (Nat.le_of_ble_eq_true rfl)
theorem dX9_adds_53 : decode cX9_adds 53 = .ok (.aload_n 0, 1) := by decide +kernel
theorem sX9_adds_53 : ab_X rom K cX9_adds 7 1 53 (.ref a :: ls) st hp = ab_X rom K cX9_adds 7 1 54 (.ref a :: ls) (.ref a :: st) hp := ax_aload_n dX9_adds_53 rfl rfl
theorem dX9_adds_54 : decode cX9_adds 54 = .ok (.iload_n 1, 1) := by decide +kernel
theorem sX9_adds_54 : ab_X rom K cX9_adds 7 1 54 (v0 :: .int x :: ls) st hp = ab_X rom K cX9_adds 7 1 55 (v0 :: .int x :: ls) (.int x :: st) hp := ax_iload_n dX9_adds_54 rfl rfl
theorem dX9_adds_55 : decode cX9_adds 55 = .ok (.iload_n 2, 1) := by decide +kernel
theorem sX9_adds_55 : ab_X rom K cX9_adds 7 1 55 (v0 :: v1 :: .int x :: ls) st hp = ab_X rom K cX9_adds 7 1 56 (v0 :: v1 :: .int x :: ls) (.int x :: st) hp := ax_iload_n dX9_adds_55 rfl rfl
theorem dX9_adds_56 : decode cX9_adds 56 = .ok (.iload_n 3, 1) := by decide +kernel
theorem sX9_adds_56 : ab_X rom K cX9_adds 7 1 56 (v0 :: v1 :: v2 :: .int x :: ls) st hp = ab_X rom K cX9_adds 7 1 57 (v0 :: v1 :: v2 :: .int x :: ls) (.int x :: st) hp := ax_iload_n dX9_adds_56 rfl rfl
theorem dX9_adds_57 : decode cX9_adds 57 = .ok (.invokevirtual 164, 3) := by decide +kernel
theorem sX9_adds_57_0 : ab_X rom K cX9_adds 7 1 57 ls [w3, w2, w1, .ref a] hp = if ab_iso hp a 7 = true then (K 180 (.ref a :: [w1, w2, w3]) hp).bind (fun o => ab_X rom K cX9_adds 7 1 60 ls (o.1.toList ++ []) o.2) else none := ay_virtual (as := [w1, w2, w3]) (st := []) dX9_adds_57 kc_7_164 rfl rfl (Nat.le_of_ble_eq_true rfl)
theorem sX9_adds_57_1 : ab_X rom K cX9_adds 7 1 57 ls [w3, w2, w1, .ref a, v0] hp = if ab_iso hp a 7 = true then (K 180 (.ref a :: [w1, w2, w3]) hp).bind (fun o => ab_X rom K cX9_adds 7 1 60 ls (o.1.toList ++ [v0]) o.2) else none := ay_virtual (as := [w1, w2, w3]) (st := [v0]) dX9_adds_57 kc_7_164 rfl rfl (Nat.le_of_ble_eq_true rfl)
theorem sX9_adds_57_2 : ab_X rom K cX9_adds 7 1 57 ls [w3, w2, w1, .ref a, v0, v1] hp = if ab_iso hp a 7 = true then (K 180 (.ref a :: [w1, w2, w3]) hp).bind (fun o => ab_X rom K cX9_adds 7 1 60 ls (o.1.toList ++ [v0, v1]) o.2) else none := ay_virtual (as := [w1, w2, w3]) (st := [v0, v1]) dX9_adds_57 kc_7_164 rfl rfl (Nat.le_of_ble_eq_true rfl)
theorem sX9_adds_57_3 : ab_X rom K cX9_adds 7 1 57 ls [w3, w2, w1, .ref a, v0, v1, v2] hp = if ab_iso hp a 7 = true then (K 180 (.ref a :: [w1, w2, w3]) hp).bind (fun o => ab_X rom K cX9_adds 7 1 60 ls (o.1.toList ++ [v0, v1, v2]) o.2) else none := ay_virtual (as := [w1, w2, w3]) (st := [v0, v1, v2]) dX9_adds_57 kc_7_164 rfl rfl (Nat.le_of_ble_eq_true rfl)
theorem dX9_adds_60 : decode cX9_adds 60 = .ok (.aload_n 0, 1) := by decide +kernel
theorem sX9_adds_60 : ab_X rom K cX9_adds 7 1 60 (.ref a :: ls) st hp = ab_X rom K cX9_adds 7 1 61 (.ref a :: ls) (.ref a :: st) hp := ax_aload_n dX9_adds_60 rfl rfl
theorem dX9_adds_61 : decode cX9_adds 61 = .ok (.aload_n 0, 1) := by decide +kernel
theorem sX9_adds_61 : ab_X rom K cX9_adds 7 1 61 (.ref a :: ls) st hp = ab_X rom K cX9_adds 7 1 62 (.ref a :: ls) (.ref a :: st) hp := ax_aload_n dX9_adds_61 rfl rfl
theorem dX9_adds_62 : decode cX9_adds 62 = .ok (.iload_n 1, 1) := by decide +kernel
theorem sX9_adds_62 : ab_X rom K cX9_adds 7 1 62 (v0 :: .int x :: ls) st hp = ab_X rom K cX9_adds 7 1 63 (v0 :: .int x :: ls) (.int x :: st) hp := ax_iload_n dX9_adds_62 rfl rfl
theorem dX9_adds_63 : decode cX9_adds 63 = .ok (.invokevirtual 150, 3) := by decide +kernel
theorem sX9_adds_63_0 : ab_X rom K cX9_adds 7 1 63 ls [w1, .ref a] hp = if ab_iso hp a 7 = true then (K 188 (.ref a :: [w1]) hp).bind (fun o => ab_X rom K cX9_adds 7 1 66 ls (o.1.toList ++ []) o.2) else none := ay_virtual (as := [w1]) (st := []) dX9_adds_63 kc_7_150 rfl rfl (Nat.le_of_ble_eq_true rfl)
theorem sX9_adds_63_1 : ab_X rom K cX9_adds 7 1 63 ls [w1, .ref a, v0] hp = if ab_iso hp a 7 = true then (K 188 (.ref a :: [w1]) hp).bind (fun o => ab_X rom K cX9_adds 7 1 66 ls (o.1.toList ++ [v0]) o.2) else none := ay_virtual (as := [w1]) (st := [v0]) dX9_adds_63 kc_7_150 rfl rfl (Nat.le_of_ble_eq_true rfl)
theorem sX9_adds_63_2 : ab_X rom K cX9_adds 7 1 63 ls [w1, .ref a, v0, v1] hp = if ab_iso hp a 7 = true then (K 188 (.ref a :: [w1]) hp).bind (fun o => ab_X rom K cX9_adds 7 1 66 ls (o.1.toList ++ [v0, v1]) o.2) else none := ay_virtual (as := [w1]) (st := [v0, v1]) dX9_adds_63 kc_7_150 rfl rfl (Nat.le_of_ble_eq_true rfl)
theorem sX9_adds_63_3 : ab_X rom K cX9_adds 7 1 63 ls [w1, .ref a, v0, v1, v2] hp = if ab_iso hp a 7 = true then (K 188 (.ref a :: [w1]) hp).bind (fun o => ab_X rom K cX9_adds 7 1 66 ls (o.1.toList ++ [v0, v1, v2]) o.2) else none := ay_virtual (as := [w1]) (st := [v0, v1, v2]) dX9_adds_63 kc_7_150 rfl rfl (Nat.le_of_ble_eq_true rfl)
theorem dX9_adds_66 : decode cX9_adds 66 = .ok (.invokevirtual 94, 3) := by decide +kernel
theorem sX9_adds_66_0 : ab_X rom K cX9_adds 7 1 66 ls [w1, .ref a] hp = if ab_iso hp a 7 = true then (K 144 (.ref a :: [w1]) hp).bind (fun o => ab_X rom K cX9_adds 7 1 69 ls (o.1.toList ++ []) o.2) else none := ay_virtual (as := [w1]) (st := []) dX9_adds_66 kc_7_94 rfl rfl (Nat.le_of_ble_eq_true rfl)
theorem sX9_adds_66_1 : ab_X rom K cX9_adds 7 1 66 ls [w1, .ref a, v0] hp = if ab_iso hp a 7 = true then (K 144 (.ref a :: [w1]) hp).bind (fun o => ab_X rom K cX9_adds 7 1 69 ls (o.1.toList ++ [v0]) o.2) else none := ay_virtual (as := [w1]) (st := [v0]) dX9_adds_66 kc_7_94 rfl rfl (Nat.le_of_ble_eq_true rfl)
theorem sX9_adds_66_2 : ab_X rom K cX9_adds 7 1 66 ls [w1, .ref a, v0, v1] hp = if ab_iso hp a 7 = true then (K 144 (.ref a :: [w1]) hp).bind (fun o => ab_X rom K cX9_adds 7 1 69 ls (o.1.toList ++ [v0, v1]) o.2) else none := ay_virtual (as := [w1]) (st := [v0, v1]) dX9_adds_66 kc_7_94 rfl rfl (Nat.le_of_ble_eq_true rfl)
theorem sX9_adds_66_3 : ab_X rom K cX9_adds 7 1 66 ls [w1, .ref a, v0, v1, v2] hp = if ab_iso hp a 7 = true then (K 144 (.ref a :: [w1]) hp).bind (fun o => ab_X rom K cX9_adds 7 1 69 ls (o.1.toList ++ [v0, v1, v2]) o.2) else none := ay_virtual (as := [w1]) (st := [v0, v1, v2]) dX9_adds_66 kc_7_94 rfl rfl (Nat.le_of_ble_eq_true rfl)
theorem dX9_adds_69 : decode cX9_adds 69 = .ok (.ireturn, 1) := by decide +kernel
theorem sX9_adds_69 : ab_X rom K cX9_adds 7 1 69 ls [.int x] hp = some (some (.int x), hp) := ax_iret dX9_adds_69 rfl
theorem tX9_apart : ab_mT[132]? = some (yX9_apart, cX9_apart, 2, 1, 7) := by decide +kernel
theorem mX9_apart {d : Nat} {x0 : Int32} {x1 : Int32} : ab_M rom (d + 1) 132 [.int x0, .int x1] hp = ab_X rom (ab_M rom d) cX9_apart 7 1 0 [.int x0, .int x1] [] hp := ab_M_eq tX9_apart (Nat.le_of_ble_eq_true rfl)
theorem dX9_apart_0 : decode cX9_apart 0 = .ok (.iload_n 0, 1) := by decide +kernel
theorem sX9_apart_0 : ab_X rom K cX9_apart 7 1 0 (.int x :: ls) st hp = ab_X rom K cX9_apart 7 1 1 (.int x :: ls) (.int x :: st) hp := ax_iload_n dX9_apart_0 rfl rfl
theorem dX9_apart_1 : decode cX9_apart 1 = .ok (.iload_n 1, 1) := by decide +kernel
theorem sX9_apart_1 : ab_X rom K cX9_apart 7 1 1 (v0 :: .int x :: ls) st hp = ab_X rom K cX9_apart 7 1 2 (v0 :: .int x :: ls) (.int x :: st) hp := ax_iload_n dX9_apart_1 rfl rfl
theorem dX9_apart_2 : decode cX9_apart 2 = .ok (.if_icmp .ge 9, 3) := by decide +kernel
theorem sX9_apart_2 : ab_X rom K cX9_apart 7 1 2 ls (.int y :: .int x :: st) hp = if x < y then ab_X rom K cX9_apart 7 1 5 ls st hp else ab_X rom K cX9_apart 7 1 11 ls st hp := ax_icmp_ge dX9_apart_2 (by decide) rfl
theorem dX9_apart_5 : decode cX9_apart 5 = .ok (.iload_n 1, 1) := by decide +kernel
theorem sX9_apart_5 : ab_X rom K cX9_apart 7 1 5 (v0 :: .int x :: ls) st hp = ab_X rom K cX9_apart 7 1 6 (v0 :: .int x :: ls) (.int x :: st) hp := ax_iload_n dX9_apart_5 rfl rfl
theorem dX9_apart_6 : decode cX9_apart 6 = .ok (.iload_n 0, 1) := by decide +kernel
theorem sX9_apart_6 : ab_X rom K cX9_apart 7 1 6 (.int x :: ls) st hp = ab_X rom K cX9_apart 7 1 7 (.int x :: ls) (.int x :: st) hp := ax_iload_n dX9_apart_6 rfl rfl
theorem dX9_apart_7 : decode cX9_apart 7 = .ok (.isub, 1) := by decide +kernel
theorem sX9_apart_7 : ab_X rom K cX9_apart 7 1 7 ls (.int y :: .int x :: st) hp = ab_X rom K cX9_apart 7 1 8 ls (.int (x - y) :: st) hp := ax_isub dX9_apart_7 rfl
theorem dX9_apart_8 : decode cX9_apart 8 = .ok (.goto 6, 3) := by decide +kernel
theorem sX9_apart_8 : ab_X rom K cX9_apart 7 1 8 ls st hp = ab_X rom K cX9_apart 7 1 14 ls st hp := ax_goto dX9_apart_8 (by decide)
theorem dX9_apart_11 : decode cX9_apart 11 = .ok (.iload_n 0, 1) := by decide +kernel
theorem sX9_apart_11 : ab_X rom K cX9_apart 7 1 11 (.int x :: ls) st hp = ab_X rom K cX9_apart 7 1 12 (.int x :: ls) (.int x :: st) hp := ax_iload_n dX9_apart_11 rfl rfl
theorem dX9_apart_12 : decode cX9_apart 12 = .ok (.iload_n 1, 1) := by decide +kernel
theorem sX9_apart_12 : ab_X rom K cX9_apart 7 1 12 (v0 :: .int x :: ls) st hp = ab_X rom K cX9_apart 7 1 13 (v0 :: .int x :: ls) (.int x :: st) hp := ax_iload_n dX9_apart_12 rfl rfl
theorem dX9_apart_13 : decode cX9_apart 13 = .ok (.isub, 1) := by decide +kernel
theorem sX9_apart_13 : ab_X rom K cX9_apart 7 1 13 ls (.int y :: .int x :: st) hp = ab_X rom K cX9_apart 7 1 14 ls (.int (x - y) :: st) hp := ax_isub dX9_apart_13 rfl
theorem dX9_apart_14 : decode cX9_apart 14 = .ok (.ireturn, 1) := by decide +kernel
theorem sX9_apart_14 : ab_X rom K cX9_apart 7 1 14 ls [.int x] hp = some (some (.int x), hp) := ax_iret dX9_apart_14 rfl
theorem tX9_areAlike : ab_mT[133]? = some (yX9_areAlike, cX9_areAlike, 3, 2, 7) := by decide +kernel
theorem mX9_areAlike {d : Nat} {a0 : Nat} {x0 : Int32} {x1 : Int32} : ab_M rom (d + 1) 133 [.ref a0, .int x0, .int x1] hp = ab_X rom (ab_M rom d) cX9_areAlike 7 2 0 [.ref a0, .int x0, .int x1] [] hp := ab_M_eq tX9_areAlike (Nat.le_of_ble_eq_true rfl)
theorem dX9_areAlike_0 : decode cX9_areAlike 0 = .ok (.iload_n 1, 1) := by decide +kernel
theorem sX9_areAlike_0 : ab_X rom K cX9_areAlike 7 2 0 (v0 :: .int x :: ls) st hp = ab_X rom K cX9_areAlike 7 2 1 (v0 :: .int x :: ls) (.int x :: st) hp := ax_iload_n dX9_areAlike_0 rfl rfl
theorem dX9_areAlike_1 : decode cX9_areAlike 1 = .ok (.iconst 4, 1) := by decide +kernel
theorem sX9_areAlike_1 : ab_X rom K cX9_areAlike 7 2 1 ls st hp = ab_X rom K cX9_areAlike 7 2 2 ls (.int 4 :: st) hp := ax_iconst dX9_areAlike_1 (by decide) rfl
theorem dX9_areAlike_2 : decode cX9_areAlike 2 = .ok (.if_icmp .eq 32, 3) := by decide +kernel
theorem sX9_areAlike_2 : ab_X rom K cX9_areAlike 7 2 2 ls (.int y :: .int x :: st) hp = if x = y then ab_X rom K cX9_areAlike 7 2 34 ls st hp else ab_X rom K cX9_areAlike 7 2 5 ls st hp := ax_icmp_eq dX9_areAlike_2 (by decide) rfl
theorem dX9_areAlike_5 : decode cX9_areAlike 5 = .ok (.aload_n 0, 1) := by decide +kernel
theorem sX9_areAlike_5 : ab_X rom K cX9_areAlike 7 2 5 (.ref a :: ls) st hp = ab_X rom K cX9_areAlike 7 2 6 (.ref a :: ls) (.ref a :: st) hp := ax_aload_n dX9_areAlike_5 rfl rfl
theorem dX9_areAlike_6 : decode cX9_areAlike 6 = .ok (.iload_n 2, 1) := by decide +kernel
theorem sX9_areAlike_6 : ab_X rom K cX9_areAlike 7 2 6 (v0 :: v1 :: .int x :: ls) st hp = ab_X rom K cX9_areAlike 7 2 7 (v0 :: v1 :: .int x :: ls) (.int x :: st) hp := ax_iload_n dX9_areAlike_6 rfl rfl
theorem dX9_areAlike_7 : decode cX9_areAlike 7 = .ok (.invokevirtual 241, 3) := by decide +kernel
theorem sX9_areAlike_7_0 : ab_X rom K cX9_areAlike 7 2 7 ls [w1, .ref a] hp = if ab_iso hp a 7 = true then (K 145 (.ref a :: [w1]) hp).bind (fun o => ab_X rom K cX9_areAlike 7 2 10 ls (o.1.toList ++ []) o.2) else none := ay_virtual (as := [w1]) (st := []) dX9_areAlike_7 kc_7_241 rfl rfl (Nat.le_of_ble_eq_true rfl)
theorem sX9_areAlike_7_1 : ab_X rom K cX9_areAlike 7 2 7 ls [w1, .ref a, v0] hp = if ab_iso hp a 7 = true then (K 145 (.ref a :: [w1]) hp).bind (fun o => ab_X rom K cX9_areAlike 7 2 10 ls (o.1.toList ++ [v0]) o.2) else none := ay_virtual (as := [w1]) (st := [v0]) dX9_areAlike_7 kc_7_241 rfl rfl (Nat.le_of_ble_eq_true rfl)
theorem sX9_areAlike_7_2 : ab_X rom K cX9_areAlike 7 2 7 ls [w1, .ref a, v0, v1] hp = if ab_iso hp a 7 = true then (K 145 (.ref a :: [w1]) hp).bind (fun o => ab_X rom K cX9_areAlike 7 2 10 ls (o.1.toList ++ [v0, v1]) o.2) else none := ay_virtual (as := [w1]) (st := [v0, v1]) dX9_areAlike_7 kc_7_241 rfl rfl (Nat.le_of_ble_eq_true rfl)
theorem sX9_areAlike_7_3 : ab_X rom K cX9_areAlike 7 2 7 ls [w1, .ref a, v0, v1, v2] hp = if ab_iso hp a 7 = true then (K 145 (.ref a :: [w1]) hp).bind (fun o => ab_X rom K cX9_areAlike 7 2 10 ls (o.1.toList ++ [v0, v1, v2]) o.2) else none := ay_virtual (as := [w1]) (st := [v0, v1, v2]) dX9_areAlike_7 kc_7_241 rfl rfl (Nat.le_of_ble_eq_true rfl)
theorem dX9_areAlike_10 : decode cX9_areAlike 10 = .ok (.iload_n 1, 1) := by decide +kernel
theorem sX9_areAlike_10 : ab_X rom K cX9_areAlike 7 2 10 (v0 :: .int x :: ls) st hp = ab_X rom K cX9_areAlike 7 2 11 (v0 :: .int x :: ls) (.int x :: st) hp := ax_iload_n dX9_areAlike_10 rfl rfl
theorem dX9_areAlike_11 : decode cX9_areAlike 11 = .ok (.iconst 2, 1) := by decide +kernel
theorem sX9_areAlike_11 : ab_X rom K cX9_areAlike 7 2 11 ls st hp = ab_X rom K cX9_areAlike 7 2 12 ls (.int 2 :: st) hp := ax_iconst dX9_areAlike_11 (by decide) rfl
theorem dX9_areAlike_12 : decode cX9_areAlike 12 = .ok (.if_icmp .ne 14, 3) := by decide +kernel
theorem sX9_areAlike_12 : ab_X rom K cX9_areAlike 7 2 12 ls (.int y :: .int x :: st) hp = if x = y then ab_X rom K cX9_areAlike 7 2 15 ls st hp else ab_X rom K cX9_areAlike 7 2 26 ls st hp := ax_icmp_ne dX9_areAlike_12 (by decide) rfl
theorem dX9_areAlike_15 : decode cX9_areAlike 15 = .ok (.aload_n 0, 1) := by decide +kernel
theorem sX9_areAlike_15 : ab_X rom K cX9_areAlike 7 2 15 (.ref a :: ls) st hp = ab_X rom K cX9_areAlike 7 2 16 (.ref a :: ls) (.ref a :: st) hp := ax_aload_n dX9_areAlike_15 rfl rfl
theorem dX9_areAlike_16 : decode cX9_areAlike 16 = .ok (.getfield 238, 3) := by decide +kernel
theorem sX9_areAlike_16 : ab_X rom K cX9_areAlike 7 2 16 ls (.ref a :: st) hp = (ab_fld hp a 7 18).bind (fun v => ab_X rom K cX9_areAlike 7 2 19 ls (v :: st) hp) := ax_getfield dX9_areAlike_16 kf_7_238 rfl
theorem dX9_areAlike_19 : decode cX9_areAlike 19 = .ok (.ifCond .eq 7, 3) := by decide +kernel
theorem sX9_areAlike_19 : ab_X rom K cX9_areAlike 7 2 19 ls (.int x :: st) hp = if x = 0 then ab_X rom K cX9_areAlike 7 2 26 ls st hp else ab_X rom K cX9_areAlike 7 2 22 ls st hp := ax_if_eq dX9_areAlike_19 (by decide) rfl
theorem dX9_areAlike_22 : decode cX9_areAlike 22 = .ok (.iconst 1, 1) := by decide +kernel
theorem sX9_areAlike_22 : ab_X rom K cX9_areAlike 7 2 22 ls st hp = ab_X rom K cX9_areAlike 7 2 23 ls (.int 1 :: st) hp := ax_iconst dX9_areAlike_22 (by decide) rfl
theorem dX9_areAlike_23 : decode cX9_areAlike 23 = .ok (.goto 4, 3) := by decide +kernel
theorem sX9_areAlike_23 : ab_X rom K cX9_areAlike 7 2 23 ls st hp = ab_X rom K cX9_areAlike 7 2 27 ls st hp := ax_goto dX9_areAlike_23 (by decide)
theorem dX9_areAlike_26 : decode cX9_areAlike 26 = .ok (.iconst 0, 1) := by decide +kernel
theorem sX9_areAlike_26 : ab_X rom K cX9_areAlike 7 2 26 ls st hp = ab_X rom K cX9_areAlike 7 2 27 ls (.int 0 :: st) hp := ax_iconst dX9_areAlike_26 (by decide) rfl
theorem dX9_areAlike_27 : decode cX9_areAlike 27 = .ok (.if_icmp .le 7, 3) := by decide +kernel
theorem sX9_areAlike_27 : ab_X rom K cX9_areAlike 7 2 27 ls (.int y :: .int x :: st) hp = if y < x then ab_X rom K cX9_areAlike 7 2 30 ls st hp else ab_X rom K cX9_areAlike 7 2 34 ls st hp := ax_icmp_le dX9_areAlike_27 (by decide) rfl
theorem dX9_areAlike_30 : decode cX9_areAlike 30 = .ok (.iconst 1, 1) := by decide +kernel
theorem sX9_areAlike_30 : ab_X rom K cX9_areAlike 7 2 30 ls st hp = ab_X rom K cX9_areAlike 7 2 31 ls (.int 1 :: st) hp := ax_iconst dX9_areAlike_30 (by decide) rfl
theorem dX9_areAlike_31 : decode cX9_areAlike 31 = .ok (.goto 4, 3) := by decide +kernel
theorem sX9_areAlike_31 : ab_X rom K cX9_areAlike 7 2 31 ls st hp = ab_X rom K cX9_areAlike 7 2 35 ls st hp := ax_goto dX9_areAlike_31 (by decide)
theorem dX9_areAlike_34 : decode cX9_areAlike 34 = .ok (.iconst 0, 1) := by decide +kernel
theorem sX9_areAlike_34 : ab_X rom K cX9_areAlike 7 2 34 ls st hp = ab_X rom K cX9_areAlike 7 2 35 ls (.int 0 :: st) hp := ax_iconst dX9_areAlike_34 (by decide) rfl
theorem dX9_areAlike_35 : decode cX9_areAlike 35 = .ok (.ireturn, 1) := by decide +kernel
theorem sX9_areAlike_35 : ab_X rom K cX9_areAlike 7 2 35 ls [.int x] hp = if x = 0 ∨ x = 1 then some (some (.int x), hp) else none := ay_zret dX9_areAlike_35 rfl
theorem tX9_areEven : ab_mT[134]? = some (yX9_areEven, cX9_areEven, 3, 2, 7) := by decide +kernel
theorem mX9_areEven {d : Nat} {a0 : Nat} {x0 : Int32} : ab_M rom (d + 1) 134 [.ref a0, .int x0] hp = ab_X rom (ab_M rom d) cX9_areEven 7 2 0 [.ref a0, .int x0, .null] [] hp := ab_M_eq tX9_areEven (Nat.le_of_ble_eq_true rfl)
theorem dX9_areEven_0 : decode cX9_areEven 0 = .ok (.iconst 0, 1) := by decide +kernel
theorem sX9_areEven_0 : ab_X rom K cX9_areEven 7 2 0 ls st hp = ab_X rom K cX9_areEven 7 2 1 ls (.int 0 :: st) hp := ax_iconst dX9_areEven_0 (by decide) rfl
theorem dX9_areEven_1 : decode cX9_areEven 1 = .ok (.istore_n 2, 1) := by decide +kernel
theorem sX9_areEven_1i : ab_X rom K cX9_areEven 7 2 1 (v0 :: .int y :: v2 :: ls) (.int x :: st) hp = ab_X rom K cX9_areEven 7 2 2 (v0 :: .int y :: .int x :: ls) st hp := ax_istore_n dX9_areEven_1 (ax_lt (v := v2) rfl) (ab_nl_c1 (j := 1) (v := .int y) rfl (ab_c1_int _)) rfl rfl
theorem sX9_areEven_1r : ab_X rom K cX9_areEven 7 2 1 (v0 :: .ref a2 :: v2 :: ls) (.int x :: st) hp = ab_X rom K cX9_areEven 7 2 2 (v0 :: .ref a2 :: .int x :: ls) st hp := ax_istore_n dX9_areEven_1 (ax_lt (v := v2) rfl) (ab_nl_c1 (j := 1) (v := .ref a2) rfl (ab_c1_ref _)) rfl rfl
theorem sX9_areEven_1n : ab_X rom K cX9_areEven 7 2 1 (v0 :: .null :: v2 :: ls) (.int x :: st) hp = ab_X rom K cX9_areEven 7 2 2 (v0 :: .null :: .int x :: ls) st hp := ax_istore_n dX9_areEven_1 (ax_lt (v := v2) rfl) (ab_nl_c1 (j := 1) (v := .null) rfl ab_c1_null) rfl rfl
theorem dX9_areEven_2 : decode cX9_areEven 2 = .ok (.iload_n 2, 1) := by decide +kernel
theorem sX9_areEven_2 : ab_X rom K cX9_areEven 7 2 2 (v0 :: v1 :: .int x :: ls) st hp = ab_X rom K cX9_areEven 7 2 3 (v0 :: v1 :: .int x :: ls) (.int x :: st) hp := ax_iload_n dX9_areEven_2 rfl rfl
theorem dX9_areEven_3 : decode cX9_areEven 3 = .ok (.aload_n 0, 1) := by decide +kernel
theorem sX9_areEven_3 : ab_X rom K cX9_areEven 7 2 3 (.ref a :: ls) st hp = ab_X rom K cX9_areEven 7 2 4 (.ref a :: ls) (.ref a :: st) hp := ax_aload_n dX9_areEven_3 rfl rfl
theorem dX9_areEven_4 : decode cX9_areEven 4 = .ok (.iload_n 1, 1) := by decide +kernel
theorem sX9_areEven_4 : ab_X rom K cX9_areEven 7 2 4 (v0 :: .int x :: ls) st hp = ab_X rom K cX9_areEven 7 2 5 (v0 :: .int x :: ls) (.int x :: st) hp := ax_iload_n dX9_areEven_4 rfl rfl
theorem dX9_areEven_5 : decode cX9_areEven 5 = .ok (.invokevirtual 64, 3) := by decide +kernel
theorem sX9_areEven_5_0 : ab_X rom K cX9_areEven 7 2 5 ls [w1, .ref a] hp = if ab_iso hp a 7 = true then (K 209 (.ref a :: [w1]) hp).bind (fun o => ab_X rom K cX9_areEven 7 2 8 ls (o.1.toList ++ []) o.2) else none := ay_virtual (as := [w1]) (st := []) dX9_areEven_5 kc_7_64 rfl rfl (Nat.le_of_ble_eq_true rfl)
theorem sX9_areEven_5_1 : ab_X rom K cX9_areEven 7 2 5 ls [w1, .ref a, v0] hp = if ab_iso hp a 7 = true then (K 209 (.ref a :: [w1]) hp).bind (fun o => ab_X rom K cX9_areEven 7 2 8 ls (o.1.toList ++ [v0]) o.2) else none := ay_virtual (as := [w1]) (st := [v0]) dX9_areEven_5 kc_7_64 rfl rfl (Nat.le_of_ble_eq_true rfl)
theorem sX9_areEven_5_2 : ab_X rom K cX9_areEven 7 2 5 ls [w1, .ref a, v0, v1] hp = if ab_iso hp a 7 = true then (K 209 (.ref a :: [w1]) hp).bind (fun o => ab_X rom K cX9_areEven 7 2 8 ls (o.1.toList ++ [v0, v1]) o.2) else none := ay_virtual (as := [w1]) (st := [v0, v1]) dX9_areEven_5 kc_7_64 rfl rfl (Nat.le_of_ble_eq_true rfl)
theorem sX9_areEven_5_3 : ab_X rom K cX9_areEven 7 2 5 ls [w1, .ref a, v0, v1, v2] hp = if ab_iso hp a 7 = true then (K 209 (.ref a :: [w1]) hp).bind (fun o => ab_X rom K cX9_areEven 7 2 8 ls (o.1.toList ++ [v0, v1, v2]) o.2) else none := ay_virtual (as := [w1]) (st := [v0, v1, v2]) dX9_areEven_5 kc_7_64 rfl rfl (Nat.le_of_ble_eq_true rfl)
theorem dX9_areEven_8 : decode cX9_areEven 8 = .ok (.if_icmp .ge 26, 3) := by decide +kernel
theorem sX9_areEven_8 : ab_X rom K cX9_areEven 7 2 8 ls (.int y :: .int x :: st) hp = if x < y then ab_X rom K cX9_areEven 7 2 11 ls st hp else ab_X rom K cX9_areEven 7 2 34 ls st hp := ax_icmp_ge dX9_areEven_8 (by decide) rfl
theorem dX9_areEven_11 : decode cX9_areEven 11 = .ok (.aload_n 0, 1) := by decide +kernel
theorem sX9_areEven_11 : ab_X rom K cX9_areEven 7 2 11 (.ref a :: ls) st hp = ab_X rom K cX9_areEven 7 2 12 (.ref a :: ls) (.ref a :: st) hp := ax_aload_n dX9_areEven_11 rfl rfl
theorem dX9_areEven_12 : decode cX9_areEven 12 = .ok (.iload_n 1, 1) := by decide +kernel
theorem sX9_areEven_12 : ab_X rom K cX9_areEven 7 2 12 (v0 :: .int x :: ls) st hp = ab_X rom K cX9_areEven 7 2 13 (v0 :: .int x :: ls) (.int x :: st) hp := ax_iload_n dX9_areEven_12 rfl rfl
theorem dX9_areEven_13 : decode cX9_areEven 13 = .ok (.iload_n 2, 1) := by decide +kernel
theorem sX9_areEven_13 : ab_X rom K cX9_areEven 7 2 13 (v0 :: v1 :: .int x :: ls) st hp = ab_X rom K cX9_areEven 7 2 14 (v0 :: v1 :: .int x :: ls) (.int x :: st) hp := ax_iload_n dX9_areEven_13 rfl rfl
theorem dX9_areEven_14 : decode cX9_areEven 14 = .ok (.invokevirtual 73, 3) := by decide +kernel
theorem sX9_areEven_14_0 : ab_X rom K cX9_areEven 7 2 14 ls [w2, w1, .ref a] hp = if ab_iso hp a 7 = true then (K 179 (.ref a :: [w1, w2]) hp).bind (fun o => ab_X rom K cX9_areEven 7 2 17 ls (o.1.toList ++ []) o.2) else none := ay_virtual (as := [w1, w2]) (st := []) dX9_areEven_14 kc_7_73 rfl rfl (Nat.le_of_ble_eq_true rfl)
theorem sX9_areEven_14_1 : ab_X rom K cX9_areEven 7 2 14 ls [w2, w1, .ref a, v0] hp = if ab_iso hp a 7 = true then (K 179 (.ref a :: [w1, w2]) hp).bind (fun o => ab_X rom K cX9_areEven 7 2 17 ls (o.1.toList ++ [v0]) o.2) else none := ay_virtual (as := [w1, w2]) (st := [v0]) dX9_areEven_14 kc_7_73 rfl rfl (Nat.le_of_ble_eq_true rfl)
theorem sX9_areEven_14_2 : ab_X rom K cX9_areEven 7 2 14 ls [w2, w1, .ref a, v0, v1] hp = if ab_iso hp a 7 = true then (K 179 (.ref a :: [w1, w2]) hp).bind (fun o => ab_X rom K cX9_areEven 7 2 17 ls (o.1.toList ++ [v0, v1]) o.2) else none := ay_virtual (as := [w1, w2]) (st := [v0, v1]) dX9_areEven_14 kc_7_73 rfl rfl (Nat.le_of_ble_eq_true rfl)
theorem sX9_areEven_14_3 : ab_X rom K cX9_areEven 7 2 14 ls [w2, w1, .ref a, v0, v1, v2] hp = if ab_iso hp a 7 = true then (K 179 (.ref a :: [w1, w2]) hp).bind (fun o => ab_X rom K cX9_areEven 7 2 17 ls (o.1.toList ++ [v0, v1, v2]) o.2) else none := ay_virtual (as := [w1, w2]) (st := [v0, v1, v2]) dX9_areEven_14 kc_7_73 rfl rfl (Nat.le_of_ble_eq_true rfl)
theorem dX9_areEven_17 : decode cX9_areEven 17 = .ok (.invokestatic 81, 3) := by decide +kernel
theorem sX9_areEven_17_0 : ab_X rom K cX9_areEven 7 2 17 ls [w1] hp = (K 204 [w1] hp).bind (fun o => ab_X rom K cX9_areEven 7 2 20 ls (o.1.toList ++ []) o.2) := ax_static (as := [w1]) (st := []) dX9_areEven_17 kc_7_81 rfl rfl (Nat.le_of_ble_eq_true rfl)
theorem sX9_areEven_17_1 : ab_X rom K cX9_areEven 7 2 17 ls [w1, v0] hp = (K 204 [w1] hp).bind (fun o => ab_X rom K cX9_areEven 7 2 20 ls (o.1.toList ++ [v0]) o.2) := ax_static (as := [w1]) (st := [v0]) dX9_areEven_17 kc_7_81 rfl rfl (Nat.le_of_ble_eq_true rfl)
theorem sX9_areEven_17_2 : ab_X rom K cX9_areEven 7 2 17 ls [w1, v0, v1] hp = (K 204 [w1] hp).bind (fun o => ab_X rom K cX9_areEven 7 2 20 ls (o.1.toList ++ [v0, v1]) o.2) := ax_static (as := [w1]) (st := [v0, v1]) dX9_areEven_17 kc_7_81 rfl rfl (Nat.le_of_ble_eq_true rfl)
theorem sX9_areEven_17_3 : ab_X rom K cX9_areEven 7 2 17 ls [w1, v0, v1, v2] hp = (K 204 [w1] hp).bind (fun o => ab_X rom K cX9_areEven 7 2 20 ls (o.1.toList ++ [v0, v1, v2]) o.2) := ax_static (as := [w1]) (st := [v0, v1, v2]) dX9_areEven_17 kc_7_81 rfl rfl (Nat.le_of_ble_eq_true rfl)
theorem dX9_areEven_20 : decode cX9_areEven 20 = .ok (.iconst 2, 1) := by decide +kernel
theorem sX9_areEven_20 : ab_X rom K cX9_areEven 7 2 20 ls st hp = ab_X rom K cX9_areEven 7 2 21 ls (.int 2 :: st) hp := ax_iconst dX9_areEven_20 (by decide) rfl
theorem dX9_areEven_21 : decode cX9_areEven 21 = .ok (.irem, 1) := by decide +kernel
theorem sX9_areEven_21 : ab_X rom K cX9_areEven 7 2 21 ls (.int y :: .int x :: st) hp = if y = 0 then none else ab_X rom K cX9_areEven 7 2 22 ls (.int (ab_rem x y) :: st) hp := ay_irem dX9_areEven_21 rfl
theorem dX9_areEven_22 : decode cX9_areEven 22 = .ok (.iconst 1, 1) := by decide +kernel
theorem sX9_areEven_22 : ab_X rom K cX9_areEven 7 2 22 ls st hp = ab_X rom K cX9_areEven 7 2 23 ls (.int 1 :: st) hp := ax_iconst dX9_areEven_22 (by decide) rfl
theorem dX9_areEven_23 : decode cX9_areEven 23 = .ok (.if_icmp .ne 5, 3) := by decide +kernel
theorem sX9_areEven_23 : ab_X rom K cX9_areEven 7 2 23 ls (.int y :: .int x :: st) hp = if x = y then ab_X rom K cX9_areEven 7 2 26 ls st hp else ab_X rom K cX9_areEven 7 2 28 ls st hp := ax_icmp_ne dX9_areEven_23 (by decide) rfl
theorem dX9_areEven_26 : decode cX9_areEven 26 = .ok (.iconst 0, 1) := by decide +kernel
theorem sX9_areEven_26 : ab_X rom K cX9_areEven 7 2 26 ls st hp = ab_X rom K cX9_areEven 7 2 27 ls (.int 0 :: st) hp := ax_iconst dX9_areEven_26 (by decide) rfl
theorem dX9_areEven_27 : decode cX9_areEven 27 = .ok (.ireturn, 1) := by decide +kernel
theorem sX9_areEven_27 : ab_X rom K cX9_areEven 7 2 27 ls [.int x] hp = if x = 0 ∨ x = 1 then some (some (.int x), hp) else none := ay_zret dX9_areEven_27 rfl
theorem dX9_areEven_28 : decode cX9_areEven 28 = .ok (.iinc 2 1, 3) := by decide +kernel
theorem sX9_areEven_28i : ab_X rom K cX9_areEven 7 2 28 (v0 :: .int y :: .int x :: ls) st hp = ab_X rom K cX9_areEven 7 2 31 (v0 :: .int y :: .int (x + 1) :: ls) st hp := ax_iinc dX9_areEven_28 rfl (ab_nl_c1 (j := 1) (v := .int y) rfl (ab_c1_int _)) (by decide) rfl rfl
theorem sX9_areEven_28r : ab_X rom K cX9_areEven 7 2 28 (v0 :: .ref a2 :: .int x :: ls) st hp = ab_X rom K cX9_areEven 7 2 31 (v0 :: .ref a2 :: .int (x + 1) :: ls) st hp := ax_iinc dX9_areEven_28 rfl (ab_nl_c1 (j := 1) (v := .ref a2) rfl (ab_c1_ref _)) (by decide) rfl rfl
theorem sX9_areEven_28n : ab_X rom K cX9_areEven 7 2 28 (v0 :: .null :: .int x :: ls) st hp = ab_X rom K cX9_areEven 7 2 31 (v0 :: .null :: .int (x + 1) :: ls) st hp := ax_iinc dX9_areEven_28 rfl (ab_nl_c1 (j := 1) (v := .null) rfl ab_c1_null) (by decide) rfl rfl
theorem dX9_areEven_31 : decode cX9_areEven 31 = .ok (.goto (-29), 3) := by decide +kernel
theorem sX9_areEven_31 : ab_X rom K cX9_areEven 7 2 31 ls st hp = ab_X rom K cX9_areEven 7 2 2 ls st hp := ax_goto dX9_areEven_31 (by decide)
theorem dX9_areEven_34 : decode cX9_areEven 34 = .ok (.iconst 1, 1) := by decide +kernel
theorem sX9_areEven_34 : ab_X rom K cX9_areEven 7 2 34 ls st hp = ab_X rom K cX9_areEven 7 2 35 ls (.int 1 :: st) hp := ax_iconst dX9_areEven_34 (by decide) rfl
theorem dX9_areEven_35 : decode cX9_areEven 35 = .ok (.ireturn, 1) := by decide +kernel
theorem sX9_areEven_35 : ab_X rom K cX9_areEven 7 2 35 ls [.int x] hp = if x = 0 ∨ x = 1 then some (some (.int x), hp) else none := ay_zret dX9_areEven_35 rfl
theorem tX9_areJoined : ab_mT[135]? = some (yX9_areJoined, cX9_areJoined, 4, 2, 7) := by decide +kernel
theorem mX9_areJoined {d : Nat} {a0 : Nat} {x0 : Int32} {x1 : Int32} {x2 : Int32} : ab_M rom (d + 1) 135 [.ref a0, .int x0, .int x1, .int x2] hp = ab_X rom (ab_M rom d) cX9_areJoined 7 2 0 [.ref a0, .int x0, .int x1, .int x2] [] hp := ab_M_eq tX9_areJoined (Nat.le_of_ble_eq_true rfl)
theorem dX9_areJoined_0 : decode cX9_areJoined 0 = .ok (.aload_n 0, 1) := by decide +kernel
theorem sX9_areJoined_0 : ab_X rom K cX9_areJoined 7 2 0 (.ref a :: ls) st hp = ab_X rom K cX9_areJoined 7 2 1 (.ref a :: ls) (.ref a :: st) hp := ax_aload_n dX9_areJoined_0 rfl rfl
theorem dX9_areJoined_1 : decode cX9_areJoined 1 = .ok (.iload_n 1, 1) := by decide +kernel
theorem sX9_areJoined_1 : ab_X rom K cX9_areJoined 7 2 1 (v0 :: .int x :: ls) st hp = ab_X rom K cX9_areJoined 7 2 2 (v0 :: .int x :: ls) (.int x :: st) hp := ax_iload_n dX9_areJoined_1 rfl rfl
theorem dX9_areJoined_2 : decode cX9_areJoined 2 = .ok (.iload_n 2, 1) := by decide +kernel
theorem sX9_areJoined_2 : ab_X rom K cX9_areJoined 7 2 2 (v0 :: v1 :: .int x :: ls) st hp = ab_X rom K cX9_areJoined 7 2 3 (v0 :: v1 :: .int x :: ls) (.int x :: st) hp := ax_iload_n dX9_areJoined_2 rfl rfl
theorem dX9_areJoined_3 : decode cX9_areJoined 3 = .ok (.invokevirtual 73, 3) := by decide +kernel
theorem sX9_areJoined_3_0 : ab_X rom K cX9_areJoined 7 2 3 ls [w2, w1, .ref a] hp = if ab_iso hp a 7 = true then (K 179 (.ref a :: [w1, w2]) hp).bind (fun o => ab_X rom K cX9_areJoined 7 2 6 ls (o.1.toList ++ []) o.2) else none := ay_virtual (as := [w1, w2]) (st := []) dX9_areJoined_3 kc_7_73 rfl rfl (Nat.le_of_ble_eq_true rfl)
theorem sX9_areJoined_3_1 : ab_X rom K cX9_areJoined 7 2 3 ls [w2, w1, .ref a, v0] hp = if ab_iso hp a 7 = true then (K 179 (.ref a :: [w1, w2]) hp).bind (fun o => ab_X rom K cX9_areJoined 7 2 6 ls (o.1.toList ++ [v0]) o.2) else none := ay_virtual (as := [w1, w2]) (st := [v0]) dX9_areJoined_3 kc_7_73 rfl rfl (Nat.le_of_ble_eq_true rfl)
theorem sX9_areJoined_3_2 : ab_X rom K cX9_areJoined 7 2 3 ls [w2, w1, .ref a, v0, v1] hp = if ab_iso hp a 7 = true then (K 179 (.ref a :: [w1, w2]) hp).bind (fun o => ab_X rom K cX9_areJoined 7 2 6 ls (o.1.toList ++ [v0, v1]) o.2) else none := ay_virtual (as := [w1, w2]) (st := [v0, v1]) dX9_areJoined_3 kc_7_73 rfl rfl (Nat.le_of_ble_eq_true rfl)
theorem sX9_areJoined_3_3 : ab_X rom K cX9_areJoined 7 2 3 ls [w2, w1, .ref a, v0, v1, v2] hp = if ab_iso hp a 7 = true then (K 179 (.ref a :: [w1, w2]) hp).bind (fun o => ab_X rom K cX9_areJoined 7 2 6 ls (o.1.toList ++ [v0, v1, v2]) o.2) else none := ay_virtual (as := [w1, w2]) (st := [v0, v1, v2]) dX9_areJoined_3 kc_7_73 rfl rfl (Nat.le_of_ble_eq_true rfl)
theorem dX9_areJoined_6 : decode cX9_areJoined 6 = .ok (.iload_n 3, 1) := by decide +kernel
theorem sX9_areJoined_6 : ab_X rom K cX9_areJoined 7 2 6 (v0 :: v1 :: v2 :: .int x :: ls) st hp = ab_X rom K cX9_areJoined 7 2 7 (v0 :: v1 :: v2 :: .int x :: ls) (.int x :: st) hp := ax_iload_n dX9_areJoined_6 rfl rfl
theorem dX9_areJoined_7 : decode cX9_areJoined 7 = .ok (.invokestatic 77, 3) := by decide +kernel
theorem sX9_areJoined_7_0 : ab_X rom K cX9_areJoined 7 2 7 ls [w2, w1] hp = (K 156 [w1, w2] hp).bind (fun o => ab_X rom K cX9_areJoined 7 2 10 ls (o.1.toList ++ []) o.2) := ax_static (as := [w1, w2]) (st := []) dX9_areJoined_7 kc_7_77 rfl rfl (Nat.le_of_ble_eq_true rfl)
theorem sX9_areJoined_7_1 : ab_X rom K cX9_areJoined 7 2 7 ls [w2, w1, v0] hp = (K 156 [w1, w2] hp).bind (fun o => ab_X rom K cX9_areJoined 7 2 10 ls (o.1.toList ++ [v0]) o.2) := ax_static (as := [w1, w2]) (st := [v0]) dX9_areJoined_7 kc_7_77 rfl rfl (Nat.le_of_ble_eq_true rfl)
theorem sX9_areJoined_7_2 : ab_X rom K cX9_areJoined 7 2 7 ls [w2, w1, v0, v1] hp = (K 156 [w1, w2] hp).bind (fun o => ab_X rom K cX9_areJoined 7 2 10 ls (o.1.toList ++ [v0, v1]) o.2) := ax_static (as := [w1, w2]) (st := [v0, v1]) dX9_areJoined_7 kc_7_77 rfl rfl (Nat.le_of_ble_eq_true rfl)
theorem sX9_areJoined_7_3 : ab_X rom K cX9_areJoined 7 2 7 ls [w2, w1, v0, v1, v2] hp = (K 156 [w1, w2] hp).bind (fun o => ab_X rom K cX9_areJoined 7 2 10 ls (o.1.toList ++ [v0, v1, v2]) o.2) := ax_static (as := [w1, w2]) (st := [v0, v1, v2]) dX9_areJoined_7 kc_7_77 rfl rfl (Nat.le_of_ble_eq_true rfl)
theorem dX9_areJoined_10 : decode cX9_areJoined 10 = .ok (.ireturn, 1) := by decide +kernel
theorem sX9_areJoined_10 : ab_X rom K cX9_areJoined 7 2 10 ls [.int x] hp = if x = 0 ∨ x = 1 then some (some (.int x), hp) else none := ay_zret dX9_areJoined_10 rfl
theorem tX9_areLinesAlike : ab_mT[136]? = some (yX9_areLinesAlike, cX9_areLinesAlike, 6, 2, 7) := by decide +kernel
theorem mX9_areLinesAlike {d : Nat} {a0 : Nat} {x0 : Int32} {x1 : Int32} : ab_M rom (d + 1) 136 [.ref a0, .int x0, .int x1] hp = ab_X rom (ab_M rom d) cX9_areLinesAlike 7 2 0 [.ref a0, .int x0, .int x1, .null, .null, .null] [] hp := ab_M_eq tX9_areLinesAlike (Nat.le_of_ble_eq_true rfl)
theorem dX9_areLinesAlike_0 : decode cX9_areLinesAlike 0 = .ok (.iload_n 1, 1) := by decide +kernel
theorem sX9_areLinesAlike_0 : ab_X rom K cX9_areLinesAlike 7 2 0 (v0 :: .int x :: ls) st hp = ab_X rom K cX9_areLinesAlike 7 2 1 (v0 :: .int x :: ls) (.int x :: st) hp := ax_iload_n dX9_areLinesAlike_0 rfl rfl
theorem dX9_areLinesAlike_1 : decode cX9_areLinesAlike 1 = .ok (.iconst 4, 1) := by decide +kernel
theorem sX9_areLinesAlike_1 : ab_X rom K cX9_areLinesAlike 7 2 1 ls st hp = ab_X rom K cX9_areLinesAlike 7 2 2 ls (.int 4 :: st) hp := ax_iconst dX9_areLinesAlike_1 (by decide) rfl
theorem dX9_areLinesAlike_2 : decode cX9_areLinesAlike 2 = .ok (.if_icmp .ne 5, 3) := by decide +kernel
theorem sX9_areLinesAlike_2 : ab_X rom K cX9_areLinesAlike 7 2 2 ls (.int y :: .int x :: st) hp = if x = y then ab_X rom K cX9_areLinesAlike 7 2 5 ls st hp else ab_X rom K cX9_areLinesAlike 7 2 7 ls st hp := ax_icmp_ne dX9_areLinesAlike_2 (by decide) rfl
theorem dX9_areLinesAlike_5 : decode cX9_areLinesAlike 5 = .ok (.iconst 0, 1) := by decide +kernel
theorem sX9_areLinesAlike_5 : ab_X rom K cX9_areLinesAlike 7 2 5 ls st hp = ab_X rom K cX9_areLinesAlike 7 2 6 ls (.int 0 :: st) hp := ax_iconst dX9_areLinesAlike_5 (by decide) rfl
theorem dX9_areLinesAlike_6 : decode cX9_areLinesAlike 6 = .ok (.ireturn, 1) := by decide +kernel
theorem sX9_areLinesAlike_6 : ab_X rom K cX9_areLinesAlike 7 2 6 ls [.int x] hp = if x = 0 ∨ x = 1 then some (some (.int x), hp) else none := ay_zret dX9_areLinesAlike_6 rfl
theorem dX9_areLinesAlike_7 : decode cX9_areLinesAlike 7 = .ok (.iconst 0, 1) := by decide +kernel
theorem sX9_areLinesAlike_7 : ab_X rom K cX9_areLinesAlike 7 2 7 ls st hp = ab_X rom K cX9_areLinesAlike 7 2 8 ls (.int 0 :: st) hp := ax_iconst dX9_areLinesAlike_7 (by decide) rfl
theorem dX9_areLinesAlike_8 : decode cX9_areLinesAlike 8 = .ok (.istore_n 3, 1) := by decide +kernel
theorem sX9_areLinesAlike_8i : ab_X rom K cX9_areLinesAlike 7 2 8 (v0 :: v1 :: .int y :: v3 :: ls) (.int x :: st) hp = ab_X rom K cX9_areLinesAlike 7 2 9 (v0 :: v1 :: .int y :: .int x :: ls) st hp := ax_istore_n dX9_areLinesAlike_8 (ax_lt (v := v3) rfl) (ab_nl_c1 (j := 2) (v := .int y) rfl (ab_c1_int _)) rfl rfl
theorem sX9_areLinesAlike_8r : ab_X rom K cX9_areLinesAlike 7 2 8 (v0 :: v1 :: .ref a2 :: v3 :: ls) (.int x :: st) hp = ab_X rom K cX9_areLinesAlike 7 2 9 (v0 :: v1 :: .ref a2 :: .int x :: ls) st hp := ax_istore_n dX9_areLinesAlike_8 (ax_lt (v := v3) rfl) (ab_nl_c1 (j := 2) (v := .ref a2) rfl (ab_c1_ref _)) rfl rfl
theorem sX9_areLinesAlike_8n : ab_X rom K cX9_areLinesAlike 7 2 8 (v0 :: v1 :: .null :: v3 :: ls) (.int x :: st) hp = ab_X rom K cX9_areLinesAlike 7 2 9 (v0 :: v1 :: .null :: .int x :: ls) st hp := ax_istore_n dX9_areLinesAlike_8 (ax_lt (v := v3) rfl) (ab_nl_c1 (j := 2) (v := .null) rfl ab_c1_null) rfl rfl
theorem dX9_areLinesAlike_9 : decode cX9_areLinesAlike 9 = .ok (.iconst 0, 1) := by decide +kernel
theorem sX9_areLinesAlike_9 : ab_X rom K cX9_areLinesAlike 7 2 9 ls st hp = ab_X rom K cX9_areLinesAlike 7 2 10 ls (.int 0 :: st) hp := ax_iconst dX9_areLinesAlike_9 (by decide) rfl
theorem dX9_areLinesAlike_10 : decode cX9_areLinesAlike 10 = .ok (.istore 4, 2) := by decide +kernel
theorem sX9_areLinesAlike_10i : ab_X rom K cX9_areLinesAlike 7 2 10 (v0 :: v1 :: v2 :: .int y :: v4 :: ls) (.int x :: st) hp = ab_X rom K cX9_areLinesAlike 7 2 12 (v0 :: v1 :: v2 :: .int y :: .int x :: ls) st hp := ax_istore dX9_areLinesAlike_10 (ax_lt (v := v4) rfl) (ab_nl_c1 (j := 3) (v := .int y) rfl (ab_c1_int _)) rfl rfl
theorem sX9_areLinesAlike_10r : ab_X rom K cX9_areLinesAlike 7 2 10 (v0 :: v1 :: v2 :: .ref a2 :: v4 :: ls) (.int x :: st) hp = ab_X rom K cX9_areLinesAlike 7 2 12 (v0 :: v1 :: v2 :: .ref a2 :: .int x :: ls) st hp := ax_istore dX9_areLinesAlike_10 (ax_lt (v := v4) rfl) (ab_nl_c1 (j := 3) (v := .ref a2) rfl (ab_c1_ref _)) rfl rfl
theorem sX9_areLinesAlike_10n : ab_X rom K cX9_areLinesAlike 7 2 10 (v0 :: v1 :: v2 :: .null :: v4 :: ls) (.int x :: st) hp = ab_X rom K cX9_areLinesAlike 7 2 12 (v0 :: v1 :: v2 :: .null :: .int x :: ls) st hp := ax_istore dX9_areLinesAlike_10 (ax_lt (v := v4) rfl) (ab_nl_c1 (j := 3) (v := .null) rfl ab_c1_null) rfl rfl
theorem dX9_areLinesAlike_12 : decode cX9_areLinesAlike 12 = .ok (.iload 4, 2) := by decide +kernel
theorem sX9_areLinesAlike_12 : ab_X rom K cX9_areLinesAlike 7 2 12 (v0 :: v1 :: v2 :: v3 :: .int x :: ls) st hp = ab_X rom K cX9_areLinesAlike 7 2 14 (v0 :: v1 :: v2 :: v3 :: .int x :: ls) (.int x :: st) hp := ax_iload dX9_areLinesAlike_12 rfl rfl
theorem dX9_areLinesAlike_14 : decode cX9_areLinesAlike 14 = .ok (.aload_n 0, 1) := by decide +kernel
theorem sX9_areLinesAlike_14 : ab_X rom K cX9_areLinesAlike 7 2 14 (.ref a :: ls) st hp = ab_X rom K cX9_areLinesAlike 7 2 15 (.ref a :: ls) (.ref a :: st) hp := ax_aload_n dX9_areLinesAlike_14 rfl rfl
theorem dX9_areLinesAlike_15 : decode cX9_areLinesAlike 15 = .ok (.getfield 210, 3) := by decide +kernel
theorem sX9_areLinesAlike_15 : ab_X rom K cX9_areLinesAlike 7 2 15 ls (.ref a :: st) hp = (ab_fld hp a 7 15).bind (fun v => ab_X rom K cX9_areLinesAlike 7 2 18 ls (v :: st) hp) := ax_getfield dX9_areLinesAlike_15 kf_7_210 rfl
theorem dX9_areLinesAlike_18 : decode cX9_areLinesAlike 18 = .ok (.if_icmp .ge 50, 3) := by decide +kernel
theorem sX9_areLinesAlike_18 : ab_X rom K cX9_areLinesAlike 7 2 18 ls (.int y :: .int x :: st) hp = if x < y then ab_X rom K cX9_areLinesAlike 7 2 21 ls st hp else ab_X rom K cX9_areLinesAlike 7 2 68 ls st hp := ax_icmp_ge dX9_areLinesAlike_18 (by decide) rfl
theorem dX9_areLinesAlike_21 : decode cX9_areLinesAlike 21 = .ok (.aload_n 0, 1) := by decide +kernel
theorem sX9_areLinesAlike_21 : ab_X rom K cX9_areLinesAlike 7 2 21 (.ref a :: ls) st hp = ab_X rom K cX9_areLinesAlike 7 2 22 (.ref a :: ls) (.ref a :: st) hp := ax_aload_n dX9_areLinesAlike_21 rfl rfl
theorem dX9_areLinesAlike_22 : decode cX9_areLinesAlike 22 = .ok (.getfield 29, 3) := by decide +kernel
theorem sX9_areLinesAlike_22 : ab_X rom K cX9_areLinesAlike 7 2 22 ls (.ref a :: st) hp = (ab_fld hp a 7 14).bind (fun v => ab_X rom K cX9_areLinesAlike 7 2 25 ls (v :: st) hp) := ax_getfield dX9_areLinesAlike_22 kf_7_29 rfl
theorem dX9_areLinesAlike_25 : decode cX9_areLinesAlike 25 = .ok (.iload 4, 2) := by decide +kernel
theorem sX9_areLinesAlike_25 : ab_X rom K cX9_areLinesAlike 7 2 25 (v0 :: v1 :: v2 :: v3 :: .int x :: ls) st hp = ab_X rom K cX9_areLinesAlike 7 2 27 (v0 :: v1 :: v2 :: v3 :: .int x :: ls) (.int x :: st) hp := ax_iload dX9_areLinesAlike_25 rfl rfl
theorem dX9_areLinesAlike_27 : decode cX9_areLinesAlike 27 = .ok (.iaload, 1) := by decide +kernel
theorem sX9_areLinesAlike_27 : ab_X rom K cX9_areLinesAlike 7 2 27 ls (.int x :: .ref a :: st) hp = (ab_ard rom 0 hp a x).bind (fun v => ab_X rom K cX9_areLinesAlike 7 2 28 ls (.int v :: st) hp) := ax_iaload dX9_areLinesAlike_27 rfl
theorem dX9_areLinesAlike_28 : decode cX9_areLinesAlike 28 = .ok (.iload_n 2, 1) := by decide +kernel
theorem sX9_areLinesAlike_28 : ab_X rom K cX9_areLinesAlike 7 2 28 (v0 :: v1 :: .int x :: ls) st hp = ab_X rom K cX9_areLinesAlike 7 2 29 (v0 :: v1 :: .int x :: ls) (.int x :: st) hp := ax_iload_n dX9_areLinesAlike_28 rfl rfl
theorem dX9_areLinesAlike_29 : decode cX9_areLinesAlike 29 = .ok (.if_icmp .lt 6, 3) := by decide +kernel
theorem sX9_areLinesAlike_29 : ab_X rom K cX9_areLinesAlike 7 2 29 ls (.int y :: .int x :: st) hp = if x < y then ab_X rom K cX9_areLinesAlike 7 2 35 ls st hp else ab_X rom K cX9_areLinesAlike 7 2 32 ls st hp := ax_icmp_lt dX9_areLinesAlike_29 (by decide) rfl
theorem dX9_areLinesAlike_32 : decode cX9_areLinesAlike 32 = .ok (.goto 30, 3) := by decide +kernel
theorem sX9_areLinesAlike_32 : ab_X rom K cX9_areLinesAlike 7 2 32 ls st hp = ab_X rom K cX9_areLinesAlike 7 2 62 ls st hp := ax_goto dX9_areLinesAlike_32 (by decide)
theorem dX9_areLinesAlike_35 : decode cX9_areLinesAlike 35 = .ok (.aload_n 0, 1) := by decide +kernel
theorem sX9_areLinesAlike_35 : ab_X rom K cX9_areLinesAlike 7 2 35 (.ref a :: ls) st hp = ab_X rom K cX9_areLinesAlike 7 2 36 (.ref a :: ls) (.ref a :: st) hp := ax_aload_n dX9_areLinesAlike_35 rfl rfl
theorem dX9_areLinesAlike_36 : decode cX9_areLinesAlike 36 = .ok (.iload_n 1, 1) := by decide +kernel
theorem sX9_areLinesAlike_36 : ab_X rom K cX9_areLinesAlike 7 2 36 (v0 :: .int x :: ls) st hp = ab_X rom K cX9_areLinesAlike 7 2 37 (v0 :: .int x :: ls) (.int x :: st) hp := ax_iload_n dX9_areLinesAlike_36 rfl rfl
theorem dX9_areLinesAlike_37 : decode cX9_areLinesAlike 37 = .ok (.iload 4, 2) := by decide +kernel
theorem sX9_areLinesAlike_37 : ab_X rom K cX9_areLinesAlike 7 2 37 (v0 :: v1 :: v2 :: v3 :: .int x :: ls) st hp = ab_X rom K cX9_areLinesAlike 7 2 39 (v0 :: v1 :: v2 :: v3 :: .int x :: ls) (.int x :: st) hp := ax_iload dX9_areLinesAlike_37 rfl rfl
theorem dX9_areLinesAlike_39 : decode cX9_areLinesAlike 39 = .ok (.invokevirtual 244, 3) := by decide +kernel
theorem sX9_areLinesAlike_39_0 : ab_X rom K cX9_areLinesAlike 7 2 39 ls [w2, w1, .ref a] hp = if ab_iso hp a 7 = true then (K 241 (.ref a :: [w1, w2]) hp).bind (fun o => ab_X rom K cX9_areLinesAlike 7 2 42 ls (o.1.toList ++ []) o.2) else none := ay_virtual (as := [w1, w2]) (st := []) dX9_areLinesAlike_39 kc_7_244 rfl rfl (Nat.le_of_ble_eq_true rfl)
theorem sX9_areLinesAlike_39_1 : ab_X rom K cX9_areLinesAlike 7 2 39 ls [w2, w1, .ref a, v0] hp = if ab_iso hp a 7 = true then (K 241 (.ref a :: [w1, w2]) hp).bind (fun o => ab_X rom K cX9_areLinesAlike 7 2 42 ls (o.1.toList ++ [v0]) o.2) else none := ay_virtual (as := [w1, w2]) (st := [v0]) dX9_areLinesAlike_39 kc_7_244 rfl rfl (Nat.le_of_ble_eq_true rfl)
theorem sX9_areLinesAlike_39_2 : ab_X rom K cX9_areLinesAlike 7 2 39 ls [w2, w1, .ref a, v0, v1] hp = if ab_iso hp a 7 = true then (K 241 (.ref a :: [w1, w2]) hp).bind (fun o => ab_X rom K cX9_areLinesAlike 7 2 42 ls (o.1.toList ++ [v0, v1]) o.2) else none := ay_virtual (as := [w1, w2]) (st := [v0, v1]) dX9_areLinesAlike_39 kc_7_244 rfl rfl (Nat.le_of_ble_eq_true rfl)
theorem sX9_areLinesAlike_39_3 : ab_X rom K cX9_areLinesAlike 7 2 39 ls [w2, w1, .ref a, v0, v1, v2] hp = if ab_iso hp a 7 = true then (K 241 (.ref a :: [w1, w2]) hp).bind (fun o => ab_X rom K cX9_areLinesAlike 7 2 42 ls (o.1.toList ++ [v0, v1, v2]) o.2) else none := ay_virtual (as := [w1, w2]) (st := [v0, v1, v2]) dX9_areLinesAlike_39 kc_7_244 rfl rfl (Nat.le_of_ble_eq_true rfl)
theorem dX9_areLinesAlike_42 : decode cX9_areLinesAlike 42 = .ok (.istore 5, 2) := by decide +kernel
theorem sX9_areLinesAlike_42i : ab_X rom K cX9_areLinesAlike 7 2 42 (v0 :: v1 :: v2 :: v3 :: .int y :: v5 :: ls) (.int x :: st) hp = ab_X rom K cX9_areLinesAlike 7 2 44 (v0 :: v1 :: v2 :: v3 :: .int y :: .int x :: ls) st hp := ax_istore dX9_areLinesAlike_42 (ax_lt (v := v5) rfl) (ab_nl_c1 (j := 4) (v := .int y) rfl (ab_c1_int _)) rfl rfl
theorem sX9_areLinesAlike_42r : ab_X rom K cX9_areLinesAlike 7 2 42 (v0 :: v1 :: v2 :: v3 :: .ref a2 :: v5 :: ls) (.int x :: st) hp = ab_X rom K cX9_areLinesAlike 7 2 44 (v0 :: v1 :: v2 :: v3 :: .ref a2 :: .int x :: ls) st hp := ax_istore dX9_areLinesAlike_42 (ax_lt (v := v5) rfl) (ab_nl_c1 (j := 4) (v := .ref a2) rfl (ab_c1_ref _)) rfl rfl
theorem sX9_areLinesAlike_42n : ab_X rom K cX9_areLinesAlike 7 2 42 (v0 :: v1 :: v2 :: v3 :: .null :: v5 :: ls) (.int x :: st) hp = ab_X rom K cX9_areLinesAlike 7 2 44 (v0 :: v1 :: v2 :: v3 :: .null :: .int x :: ls) st hp := ax_istore dX9_areLinesAlike_42 (ax_lt (v := v5) rfl) (ab_nl_c1 (j := 4) (v := .null) rfl ab_c1_null) rfl rfl
theorem dX9_areLinesAlike_44 : decode cX9_areLinesAlike 44 = .ok (.iload_n 3, 1) := by decide +kernel
theorem sX9_areLinesAlike_44 : ab_X rom K cX9_areLinesAlike 7 2 44 (v0 :: v1 :: v2 :: .int x :: ls) st hp = ab_X rom K cX9_areLinesAlike 7 2 45 (v0 :: v1 :: v2 :: .int x :: ls) (.int x :: st) hp := ax_iload_n dX9_areLinesAlike_44 rfl rfl
theorem dX9_areLinesAlike_45 : decode cX9_areLinesAlike 45 = .ok (.iload 5, 2) := by decide +kernel
theorem sX9_areLinesAlike_45 : ab_X rom K cX9_areLinesAlike 7 2 45 (v0 :: v1 :: v2 :: v3 :: v4 :: .int x :: ls) st hp = ab_X rom K cX9_areLinesAlike 7 2 47 (v0 :: v1 :: v2 :: v3 :: v4 :: .int x :: ls) (.int x :: st) hp := ax_iload dX9_areLinesAlike_45 rfl rfl
theorem dX9_areLinesAlike_47 : decode cX9_areLinesAlike 47 = .ok (.invokestatic 77, 3) := by decide +kernel
theorem sX9_areLinesAlike_47_0 : ab_X rom K cX9_areLinesAlike 7 2 47 ls [w2, w1] hp = (K 156 [w1, w2] hp).bind (fun o => ab_X rom K cX9_areLinesAlike 7 2 50 ls (o.1.toList ++ []) o.2) := ax_static (as := [w1, w2]) (st := []) dX9_areLinesAlike_47 kc_7_77 rfl rfl (Nat.le_of_ble_eq_true rfl)
theorem sX9_areLinesAlike_47_1 : ab_X rom K cX9_areLinesAlike 7 2 47 ls [w2, w1, v0] hp = (K 156 [w1, w2] hp).bind (fun o => ab_X rom K cX9_areLinesAlike 7 2 50 ls (o.1.toList ++ [v0]) o.2) := ax_static (as := [w1, w2]) (st := [v0]) dX9_areLinesAlike_47 kc_7_77 rfl rfl (Nat.le_of_ble_eq_true rfl)
theorem sX9_areLinesAlike_47_2 : ab_X rom K cX9_areLinesAlike 7 2 47 ls [w2, w1, v0, v1] hp = (K 156 [w1, w2] hp).bind (fun o => ab_X rom K cX9_areLinesAlike 7 2 50 ls (o.1.toList ++ [v0, v1]) o.2) := ax_static (as := [w1, w2]) (st := [v0, v1]) dX9_areLinesAlike_47 kc_7_77 rfl rfl (Nat.le_of_ble_eq_true rfl)
theorem sX9_areLinesAlike_47_3 : ab_X rom K cX9_areLinesAlike 7 2 47 ls [w2, w1, v0, v1, v2] hp = (K 156 [w1, w2] hp).bind (fun o => ab_X rom K cX9_areLinesAlike 7 2 50 ls (o.1.toList ++ [v0, v1, v2]) o.2) := ax_static (as := [w1, w2]) (st := [v0, v1, v2]) dX9_areLinesAlike_47 kc_7_77 rfl rfl (Nat.le_of_ble_eq_true rfl)
theorem dX9_areLinesAlike_50 : decode cX9_areLinesAlike 50 = .ok (.ifCond .eq 5, 3) := by decide +kernel
theorem sX9_areLinesAlike_50 : ab_X rom K cX9_areLinesAlike 7 2 50 ls (.int x :: st) hp = if x = 0 then ab_X rom K cX9_areLinesAlike 7 2 55 ls st hp else ab_X rom K cX9_areLinesAlike 7 2 53 ls st hp := ax_if_eq dX9_areLinesAlike_50 (by decide) rfl
theorem dX9_areLinesAlike_53 : decode cX9_areLinesAlike 53 = .ok (.iconst 1, 1) := by decide +kernel
theorem sX9_areLinesAlike_53 : ab_X rom K cX9_areLinesAlike 7 2 53 ls st hp = ab_X rom K cX9_areLinesAlike 7 2 54 ls (.int 1 :: st) hp := ax_iconst dX9_areLinesAlike_53 (by decide) rfl
theorem dX9_areLinesAlike_54 : decode cX9_areLinesAlike 54 = .ok (.ireturn, 1) := by decide +kernel
theorem sX9_areLinesAlike_54 : ab_X rom K cX9_areLinesAlike 7 2 54 ls [.int x] hp = if x = 0 ∨ x = 1 then some (some (.int x), hp) else none := ay_zret dX9_areLinesAlike_54 rfl
theorem dX9_areLinesAlike_55 : decode cX9_areLinesAlike 55 = .ok (.iload_n 3, 1) := by decide +kernel
theorem sX9_areLinesAlike_55 : ab_X rom K cX9_areLinesAlike 7 2 55 (v0 :: v1 :: v2 :: .int x :: ls) st hp = ab_X rom K cX9_areLinesAlike 7 2 56 (v0 :: v1 :: v2 :: .int x :: ls) (.int x :: st) hp := ax_iload_n dX9_areLinesAlike_55 rfl rfl
theorem dX9_areLinesAlike_56 : decode cX9_areLinesAlike 56 = .ok (.iconst 1, 1) := by decide +kernel
theorem sX9_areLinesAlike_56 : ab_X rom K cX9_areLinesAlike 7 2 56 ls st hp = ab_X rom K cX9_areLinesAlike 7 2 57 ls (.int 1 :: st) hp := ax_iconst dX9_areLinesAlike_56 (by decide) rfl
theorem dX9_areLinesAlike_57 : decode cX9_areLinesAlike 57 = .ok (.iload 5, 2) := by decide +kernel
theorem sX9_areLinesAlike_57 : ab_X rom K cX9_areLinesAlike 7 2 57 (v0 :: v1 :: v2 :: v3 :: v4 :: .int x :: ls) st hp = ab_X rom K cX9_areLinesAlike 7 2 59 (v0 :: v1 :: v2 :: v3 :: v4 :: .int x :: ls) (.int x :: st) hp := ax_iload dX9_areLinesAlike_57 rfl rfl
theorem dX9_areLinesAlike_59 : decode cX9_areLinesAlike 59 = .ok (.ishl, 1) := by decide +kernel
theorem sX9_areLinesAlike_59 : ab_X rom K cX9_areLinesAlike 7 2 59 ls (.int y :: .int x :: st) hp = ab_X rom K cX9_areLinesAlike 7 2 60 ls (.int (x <<< (y &&& 31)) :: st) hp := ax_ishl dX9_areLinesAlike_59 rfl
theorem dX9_areLinesAlike_60 : decode cX9_areLinesAlike 60 = .ok (.ior, 1) := by decide +kernel
theorem sX9_areLinesAlike_60 : ab_X rom K cX9_areLinesAlike 7 2 60 ls (.int y :: .int x :: st) hp = ab_X rom K cX9_areLinesAlike 7 2 61 ls (.int (x ||| y) :: st) hp := ax_ior dX9_areLinesAlike_60 rfl
theorem dX9_areLinesAlike_61 : decode cX9_areLinesAlike 61 = .ok (.istore_n 3, 1) := by decide +kernel
theorem sX9_areLinesAlike_61i : ab_X rom K cX9_areLinesAlike 7 2 61 (v0 :: v1 :: .int y :: v3 :: ls) (.int x :: st) hp = ab_X rom K cX9_areLinesAlike 7 2 62 (v0 :: v1 :: .int y :: .int x :: ls) st hp := ax_istore_n dX9_areLinesAlike_61 (ax_lt (v := v3) rfl) (ab_nl_c1 (j := 2) (v := .int y) rfl (ab_c1_int _)) rfl rfl
theorem sX9_areLinesAlike_61r : ab_X rom K cX9_areLinesAlike 7 2 61 (v0 :: v1 :: .ref a2 :: v3 :: ls) (.int x :: st) hp = ab_X rom K cX9_areLinesAlike 7 2 62 (v0 :: v1 :: .ref a2 :: .int x :: ls) st hp := ax_istore_n dX9_areLinesAlike_61 (ax_lt (v := v3) rfl) (ab_nl_c1 (j := 2) (v := .ref a2) rfl (ab_c1_ref _)) rfl rfl
theorem sX9_areLinesAlike_61n : ab_X rom K cX9_areLinesAlike 7 2 61 (v0 :: v1 :: .null :: v3 :: ls) (.int x :: st) hp = ab_X rom K cX9_areLinesAlike 7 2 62 (v0 :: v1 :: .null :: .int x :: ls) st hp := ax_istore_n dX9_areLinesAlike_61 (ax_lt (v := v3) rfl) (ab_nl_c1 (j := 2) (v := .null) rfl ab_c1_null) rfl rfl
theorem dX9_areLinesAlike_62 : decode cX9_areLinesAlike 62 = .ok (.iinc 4 1, 3) := by decide +kernel
theorem sX9_areLinesAlike_62i : ab_X rom K cX9_areLinesAlike 7 2 62 (v0 :: v1 :: v2 :: .int y :: .int x :: ls) st hp = ab_X rom K cX9_areLinesAlike 7 2 65 (v0 :: v1 :: v2 :: .int y :: .int (x + 1) :: ls) st hp := ax_iinc dX9_areLinesAlike_62 rfl (ab_nl_c1 (j := 3) (v := .int y) rfl (ab_c1_int _)) (by decide) rfl rfl
theorem sX9_areLinesAlike_62r : ab_X rom K cX9_areLinesAlike 7 2 62 (v0 :: v1 :: v2 :: .ref a2 :: .int x :: ls) st hp = ab_X rom K cX9_areLinesAlike 7 2 65 (v0 :: v1 :: v2 :: .ref a2 :: .int (x + 1) :: ls) st hp := ax_iinc dX9_areLinesAlike_62 rfl (ab_nl_c1 (j := 3) (v := .ref a2) rfl (ab_c1_ref _)) (by decide) rfl rfl
theorem sX9_areLinesAlike_62n : ab_X rom K cX9_areLinesAlike 7 2 62 (v0 :: v1 :: v2 :: .null :: .int x :: ls) st hp = ab_X rom K cX9_areLinesAlike 7 2 65 (v0 :: v1 :: v2 :: .null :: .int (x + 1) :: ls) st hp := ax_iinc dX9_areLinesAlike_62 rfl (ab_nl_c1 (j := 3) (v := .null) rfl ab_c1_null) (by decide) rfl rfl
theorem dX9_areLinesAlike_65 : decode cX9_areLinesAlike 65 = .ok (.goto (-53), 3) := by decide +kernel
theorem sX9_areLinesAlike_65 : ab_X rom K cX9_areLinesAlike 7 2 65 ls st hp = ab_X rom K cX9_areLinesAlike 7 2 12 ls st hp := ax_goto dX9_areLinesAlike_65 (by decide)
theorem dX9_areLinesAlike_68 : decode cX9_areLinesAlike 68 = .ok (.iconst 0, 1) := by decide +kernel
theorem sX9_areLinesAlike_68 : ab_X rom K cX9_areLinesAlike 7 2 68 ls st hp = ab_X rom K cX9_areLinesAlike 7 2 69 ls (.int 0 :: st) hp := ax_iconst dX9_areLinesAlike_68 (by decide) rfl
theorem dX9_areLinesAlike_69 : decode cX9_areLinesAlike 69 = .ok (.ireturn, 1) := by decide +kernel
theorem sX9_areLinesAlike_69 : ab_X rom K cX9_areLinesAlike 7 2 69 ls [.int x] hp = if x = 0 ∨ x = 1 then some (some (.int x), hp) else none := ay_zret dX9_areLinesAlike_69 rfl
theorem tX9_bars : ab_mT[137]? = some (yX9_bars, cX9_bars, 3, 1, 7) := by decide +kernel
theorem mX9_bars {d : Nat} {a0 : Nat} {x0 : Int32} {x1 : Int32} : ab_M rom (d + 1) 137 [.ref a0, .int x0, .int x1] hp = ab_X rom (ab_M rom d) cX9_bars 7 1 0 [.ref a0, .int x0, .int x1] [] hp := ab_M_eq tX9_bars (Nat.le_of_ble_eq_true rfl)
theorem dX9_bars_0 : decode cX9_bars 0 = .ok (.aload_n 0, 1) := by decide +kernel
theorem sX9_bars_0 : ab_X rom K cX9_bars 7 1 0 (.ref a :: ls) st hp = ab_X rom K cX9_bars 7 1 1 (.ref a :: ls) (.ref a :: st) hp := ax_aload_n dX9_bars_0 rfl rfl
theorem dX9_bars_1 : decode cX9_bars 1 = .ok (.iload_n 1, 1) := by decide +kernel
theorem sX9_bars_1 : ab_X rom K cX9_bars 7 1 1 (v0 :: .int x :: ls) st hp = ab_X rom K cX9_bars 7 1 2 (v0 :: .int x :: ls) (.int x :: st) hp := ax_iload_n dX9_bars_1 rfl rfl
theorem dX9_bars_2 : decode cX9_bars 2 = .ok (.invokevirtual 68, 3) := by decide +kernel
theorem sX9_bars_2_0 : ab_X rom K cX9_bars 7 1 2 ls [w1, .ref a] hp = if ab_iso hp a 7 = true then (K 171 (.ref a :: [w1]) hp).bind (fun o => ab_X rom K cX9_bars 7 1 5 ls (o.1.toList ++ []) o.2) else none := ay_virtual (as := [w1]) (st := []) dX9_bars_2 kc_7_68 rfl rfl (Nat.le_of_ble_eq_true rfl)
theorem sX9_bars_2_1 : ab_X rom K cX9_bars 7 1 2 ls [w1, .ref a, v0] hp = if ab_iso hp a 7 = true then (K 171 (.ref a :: [w1]) hp).bind (fun o => ab_X rom K cX9_bars 7 1 5 ls (o.1.toList ++ [v0]) o.2) else none := ay_virtual (as := [w1]) (st := [v0]) dX9_bars_2 kc_7_68 rfl rfl (Nat.le_of_ble_eq_true rfl)
theorem sX9_bars_2_2 : ab_X rom K cX9_bars 7 1 2 ls [w1, .ref a, v0, v1] hp = if ab_iso hp a 7 = true then (K 171 (.ref a :: [w1]) hp).bind (fun o => ab_X rom K cX9_bars 7 1 5 ls (o.1.toList ++ [v0, v1]) o.2) else none := ay_virtual (as := [w1]) (st := [v0, v1]) dX9_bars_2 kc_7_68 rfl rfl (Nat.le_of_ble_eq_true rfl)
theorem sX9_bars_2_3 : ab_X rom K cX9_bars 7 1 2 ls [w1, .ref a, v0, v1, v2] hp = if ab_iso hp a 7 = true then (K 171 (.ref a :: [w1]) hp).bind (fun o => ab_X rom K cX9_bars 7 1 5 ls (o.1.toList ++ [v0, v1, v2]) o.2) else none := ay_virtual (as := [w1]) (st := [v0, v1, v2]) dX9_bars_2 kc_7_68 rfl rfl (Nat.le_of_ble_eq_true rfl)
theorem dX9_bars_5 : decode cX9_bars 5 = .ok (.ifCond .eq 10, 3) := by decide +kernel
theorem sX9_bars_5 : ab_X rom K cX9_bars 7 1 5 ls (.int x :: st) hp = if x = 0 then ab_X rom K cX9_bars 7 1 15 ls st hp else ab_X rom K cX9_bars 7 1 8 ls st hp := ax_if_eq dX9_bars_5 (by decide) rfl
theorem dX9_bars_8 : decode cX9_bars 8 = .ok (.iload_n 2, 1) := by decide +kernel
theorem sX9_bars_8 : ab_X rom K cX9_bars 7 1 8 (v0 :: v1 :: .int x :: ls) st hp = ab_X rom K cX9_bars 7 1 9 (v0 :: v1 :: .int x :: ls) (.int x :: st) hp := ax_iload_n dX9_bars_8 rfl rfl
theorem dX9_bars_9 : decode cX9_bars 9 = .ok (.invokestatic 278, 3) := by decide +kernel
theorem sX9_bars_9_0 : ab_X rom K cX9_bars 7 1 9 ls [w1] hp = (K 168 [w1] hp).bind (fun o => ab_X rom K cX9_bars 7 1 12 ls (o.1.toList ++ []) o.2) := ax_static (as := [w1]) (st := []) dX9_bars_9 kc_7_278 rfl rfl (Nat.le_of_ble_eq_true rfl)
theorem sX9_bars_9_1 : ab_X rom K cX9_bars 7 1 9 ls [w1, v0] hp = (K 168 [w1] hp).bind (fun o => ab_X rom K cX9_bars 7 1 12 ls (o.1.toList ++ [v0]) o.2) := ax_static (as := [w1]) (st := [v0]) dX9_bars_9 kc_7_278 rfl rfl (Nat.le_of_ble_eq_true rfl)
theorem sX9_bars_9_2 : ab_X rom K cX9_bars 7 1 9 ls [w1, v0, v1] hp = (K 168 [w1] hp).bind (fun o => ab_X rom K cX9_bars 7 1 12 ls (o.1.toList ++ [v0, v1]) o.2) := ax_static (as := [w1]) (st := [v0, v1]) dX9_bars_9 kc_7_278 rfl rfl (Nat.le_of_ble_eq_true rfl)
theorem sX9_bars_9_3 : ab_X rom K cX9_bars 7 1 9 ls [w1, v0, v1, v2] hp = (K 168 [w1] hp).bind (fun o => ab_X rom K cX9_bars 7 1 12 ls (o.1.toList ++ [v0, v1, v2]) o.2) := ax_static (as := [w1]) (st := [v0, v1, v2]) dX9_bars_9 kc_7_278 rfl rfl (Nat.le_of_ble_eq_true rfl)
theorem dX9_bars_12 : decode cX9_bars 12 = .ok (.ifCond .ne 8, 3) := by decide +kernel
theorem sX9_bars_12 : ab_X rom K cX9_bars 7 1 12 ls (.int x :: st) hp = if x = 0 then ab_X rom K cX9_bars 7 1 15 ls st hp else ab_X rom K cX9_bars 7 1 20 ls st hp := ax_if_ne dX9_bars_12 (by decide) rfl
theorem dX9_bars_15 : decode cX9_bars 15 = .ok (.bipush (-2), 2) := by decide +kernel
theorem sX9_bars_15 : ab_X rom K cX9_bars 7 1 15 ls st hp = ab_X rom K cX9_bars 7 1 17 ls (.int (-2) :: st) hp := ax_bipush dX9_bars_15 (by decide) rfl
theorem dX9_bars_17 : decode cX9_bars 17 = .ok (.goto 17, 3) := by decide +kernel
theorem sX9_bars_17 : ab_X rom K cX9_bars 7 1 17 ls st hp = ab_X rom K cX9_bars 7 1 34 ls st hp := ax_goto dX9_bars_17 (by decide)
theorem dX9_bars_20 : decode cX9_bars 20 = .ok (.aload_n 0, 1) := by decide +kernel
theorem sX9_bars_20 : ab_X rom K cX9_bars 7 1 20 (.ref a :: ls) st hp = ab_X rom K cX9_bars 7 1 21 (.ref a :: ls) (.ref a :: st) hp := ax_aload_n dX9_bars_20 rfl rfl
theorem dX9_bars_21 : decode cX9_bars 21 = .ok (.iload_n 1, 1) := by decide +kernel
theorem sX9_bars_21 : ab_X rom K cX9_bars 7 1 21 (v0 :: .int x :: ls) st hp = ab_X rom K cX9_bars 7 1 22 (v0 :: .int x :: ls) (.int x :: st) hp := ax_iload_n dX9_bars_21 rfl rfl
theorem dX9_bars_22 : decode cX9_bars 22 = .ok (.iload_n 2, 1) := by decide +kernel
theorem sX9_bars_22 : ab_X rom K cX9_bars 7 1 22 (v0 :: v1 :: .int x :: ls) st hp = ab_X rom K cX9_bars 7 1 23 (v0 :: v1 :: .int x :: ls) (.int x :: st) hp := ax_iload_n dX9_bars_22 rfl rfl
theorem dX9_bars_23 : decode cX9_bars 23 = .ok (.invokevirtual 310, 3) := by decide +kernel
theorem sX9_bars_23_0 : ab_X rom K cX9_bars 7 1 23 ls [w2, w1, .ref a] hp = if ab_iso hp a 7 = true then (K 165 (.ref a :: [w1, w2]) hp).bind (fun o => ab_X rom K cX9_bars 7 1 26 ls (o.1.toList ++ []) o.2) else none := ay_virtual (as := [w1, w2]) (st := []) dX9_bars_23 kc_7_310 rfl rfl (Nat.le_of_ble_eq_true rfl)
theorem sX9_bars_23_1 : ab_X rom K cX9_bars 7 1 23 ls [w2, w1, .ref a, v0] hp = if ab_iso hp a 7 = true then (K 165 (.ref a :: [w1, w2]) hp).bind (fun o => ab_X rom K cX9_bars 7 1 26 ls (o.1.toList ++ [v0]) o.2) else none := ay_virtual (as := [w1, w2]) (st := [v0]) dX9_bars_23 kc_7_310 rfl rfl (Nat.le_of_ble_eq_true rfl)
theorem sX9_bars_23_2 : ab_X rom K cX9_bars 7 1 23 ls [w2, w1, .ref a, v0, v1] hp = if ab_iso hp a 7 = true then (K 165 (.ref a :: [w1, w2]) hp).bind (fun o => ab_X rom K cX9_bars 7 1 26 ls (o.1.toList ++ [v0, v1]) o.2) else none := ay_virtual (as := [w1, w2]) (st := [v0, v1]) dX9_bars_23 kc_7_310 rfl rfl (Nat.le_of_ble_eq_true rfl)
theorem sX9_bars_23_3 : ab_X rom K cX9_bars 7 1 23 ls [w2, w1, .ref a, v0, v1, v2] hp = if ab_iso hp a 7 = true then (K 165 (.ref a :: [w1, w2]) hp).bind (fun o => ab_X rom K cX9_bars 7 1 26 ls (o.1.toList ++ [v0, v1, v2]) o.2) else none := ay_virtual (as := [w1, w2]) (st := [v0, v1, v2]) dX9_bars_23 kc_7_310 rfl rfl (Nat.le_of_ble_eq_true rfl)
theorem dX9_bars_26 : decode cX9_bars 26 = .ok (.ifCond .eq 7, 3) := by decide +kernel
theorem sX9_bars_26 : ab_X rom K cX9_bars 7 1 26 ls (.int x :: st) hp = if x = 0 then ab_X rom K cX9_bars 7 1 33 ls st hp else ab_X rom K cX9_bars 7 1 29 ls st hp := ax_if_eq dX9_bars_26 (by decide) rfl
theorem dX9_bars_29 : decode cX9_bars 29 = .ok (.iconst 1, 1) := by decide +kernel
theorem sX9_bars_29 : ab_X rom K cX9_bars 7 1 29 ls st hp = ab_X rom K cX9_bars 7 1 30 ls (.int 1 :: st) hp := ax_iconst dX9_bars_29 (by decide) rfl
theorem dX9_bars_30 : decode cX9_bars 30 = .ok (.goto 4, 3) := by decide +kernel
theorem sX9_bars_30 : ab_X rom K cX9_bars 7 1 30 ls st hp = ab_X rom K cX9_bars 7 1 34 ls st hp := ax_goto dX9_bars_30 (by decide)
theorem dX9_bars_33 : decode cX9_bars 33 = .ok (.iconst 0, 1) := by decide +kernel
theorem sX9_bars_33 : ab_X rom K cX9_bars 7 1 33 ls st hp = ab_X rom K cX9_bars 7 1 34 ls (.int 0 :: st) hp := ax_iconst dX9_bars_33 (by decide) rfl
theorem dX9_bars_34 : decode cX9_bars 34 = .ok (.ireturn, 1) := by decide +kernel
theorem sX9_bars_34 : ab_X rom K cX9_bars 7 1 34 ls [.int x] hp = some (some (.int x), hp) := ax_iret dX9_bars_34 rfl
theorem tX9_begins : ab_mT[138]? = some (yX9_begins, cX9_begins, 4, 0, 7) := by decide +kernel
theorem mX9_begins {d : Nat} {a0 : Nat} {x0 : Int32} {x1 : Int32} : ab_M rom (d + 1) 138 [.ref a0, .int x0, .int x1] hp = ab_X rom (ab_M rom d) cX9_begins 7 0 0 [.ref a0, .int x0, .int x1, .null] [] hp := ab_M_eq tX9_begins (Nat.le_of_ble_eq_true rfl)
theorem dX9_begins_0 : decode cX9_begins 0 = .ok (.iconst 0, 1) := by decide +kernel
theorem sX9_begins_0 : ab_X rom K cX9_begins 7 0 0 ls st hp = ab_X rom K cX9_begins 7 0 1 ls (.int 0 :: st) hp := ax_iconst dX9_begins_0 (by decide) rfl
theorem dX9_begins_1 : decode cX9_begins 1 = .ok (.istore_n 3, 1) := by decide +kernel
theorem sX9_begins_1i : ab_X rom K cX9_begins 7 0 1 (v0 :: v1 :: .int y :: v3 :: ls) (.int x :: st) hp = ab_X rom K cX9_begins 7 0 2 (v0 :: v1 :: .int y :: .int x :: ls) st hp := ax_istore_n dX9_begins_1 (ax_lt (v := v3) rfl) (ab_nl_c1 (j := 2) (v := .int y) rfl (ab_c1_int _)) rfl rfl
theorem sX9_begins_1r : ab_X rom K cX9_begins 7 0 1 (v0 :: v1 :: .ref a2 :: v3 :: ls) (.int x :: st) hp = ab_X rom K cX9_begins 7 0 2 (v0 :: v1 :: .ref a2 :: .int x :: ls) st hp := ax_istore_n dX9_begins_1 (ax_lt (v := v3) rfl) (ab_nl_c1 (j := 2) (v := .ref a2) rfl (ab_c1_ref _)) rfl rfl
theorem sX9_begins_1n : ab_X rom K cX9_begins 7 0 1 (v0 :: v1 :: .null :: v3 :: ls) (.int x :: st) hp = ab_X rom K cX9_begins 7 0 2 (v0 :: v1 :: .null :: .int x :: ls) st hp := ax_istore_n dX9_begins_1 (ax_lt (v := v3) rfl) (ab_nl_c1 (j := 2) (v := .null) rfl ab_c1_null) rfl rfl
theorem dX9_begins_2 : decode cX9_begins 2 = .ok (.iload_n 3, 1) := by decide +kernel
theorem sX9_begins_2 : ab_X rom K cX9_begins 7 0 2 (v0 :: v1 :: v2 :: .int x :: ls) st hp = ab_X rom K cX9_begins 7 0 3 (v0 :: v1 :: v2 :: .int x :: ls) (.int x :: st) hp := ax_iload_n dX9_begins_2 rfl rfl
theorem dX9_begins_3 : decode cX9_begins 3 = .ok (.bipush 15, 2) := by decide +kernel
theorem sX9_begins_3 : ab_X rom K cX9_begins 7 0 3 ls st hp = ab_X rom K cX9_begins 7 0 5 ls (.int 15 :: st) hp := ax_bipush dX9_begins_3 (by decide) rfl
theorem dX9_begins_5 : decode cX9_begins 5 = .ok (.if_icmp .ge 21, 3) := by decide +kernel
theorem sX9_begins_5 : ab_X rom K cX9_begins 7 0 5 ls (.int y :: .int x :: st) hp = if x < y then ab_X rom K cX9_begins 7 0 8 ls st hp else ab_X rom K cX9_begins 7 0 26 ls st hp := ax_icmp_ge dX9_begins_5 (by decide) rfl
theorem dX9_begins_8 : decode cX9_begins 8 = .ok (.aload_n 0, 1) := by decide +kernel
theorem sX9_begins_8 : ab_X rom K cX9_begins 7 0 8 (.ref a :: ls) st hp = ab_X rom K cX9_begins 7 0 9 (.ref a :: ls) (.ref a :: st) hp := ax_aload_n dX9_begins_8 rfl rfl
theorem dX9_begins_9 : decode cX9_begins 9 = .ok (.getfield 7, 3) := by decide +kernel
theorem sX9_begins_9 : ab_X rom K cX9_begins 7 0 9 ls (.ref a :: st) hp = (ab_fld hp a 7 0).bind (fun v => ab_X rom K cX9_begins 7 0 12 ls (v :: st) hp) := ax_getfield dX9_begins_9 kf_7_7 rfl
theorem dX9_begins_12 : decode cX9_begins 12 = .ok (.bipush 15, 2) := by decide +kernel
theorem sX9_begins_12 : ab_X rom K cX9_begins 7 0 12 ls st hp = ab_X rom K cX9_begins 7 0 14 ls (.int 15 :: st) hp := ax_bipush dX9_begins_12 (by decide) rfl
theorem dX9_begins_14 : decode cX9_begins 14 = .ok (.iload_n 1, 1) := by decide +kernel
theorem sX9_begins_14 : ab_X rom K cX9_begins 7 0 14 (v0 :: .int x :: ls) st hp = ab_X rom K cX9_begins 7 0 15 (v0 :: .int x :: ls) (.int x :: st) hp := ax_iload_n dX9_begins_14 rfl rfl
theorem dX9_begins_15 : decode cX9_begins 15 = .ok (.imul, 1) := by decide +kernel
theorem sX9_begins_15 : ab_X rom K cX9_begins 7 0 15 ls (.int y :: .int x :: st) hp = ab_X rom K cX9_begins 7 0 16 ls (.int (x * y) :: st) hp := ax_imul dX9_begins_15 rfl
theorem dX9_begins_16 : decode cX9_begins 16 = .ok (.iload_n 3, 1) := by decide +kernel
theorem sX9_begins_16 : ab_X rom K cX9_begins 7 0 16 (v0 :: v1 :: v2 :: .int x :: ls) st hp = ab_X rom K cX9_begins 7 0 17 (v0 :: v1 :: v2 :: .int x :: ls) (.int x :: st) hp := ax_iload_n dX9_begins_16 rfl rfl
theorem dX9_begins_17 : decode cX9_begins 17 = .ok (.iadd, 1) := by decide +kernel
theorem sX9_begins_17 : ab_X rom K cX9_begins 7 0 17 ls (.int y :: .int x :: st) hp = ab_X rom K cX9_begins 7 0 18 ls (.int (x + y) :: st) hp := ax_iadd dX9_begins_17 rfl
theorem dX9_begins_18 : decode cX9_begins 18 = .ok (.iconst 0, 1) := by decide +kernel
theorem sX9_begins_18 : ab_X rom K cX9_begins 7 0 18 ls st hp = ab_X rom K cX9_begins 7 0 19 ls (.int 0 :: st) hp := ax_iconst dX9_begins_18 (by decide) rfl
theorem dX9_begins_19 : decode cX9_begins 19 = .ok (.iastore, 1) := by decide +kernel
theorem sX9_begins_19 : ab_X rom K cX9_begins 7 0 19 ls (.int y :: .int x :: .ref a :: st) hp = (ab_awr 0 hp a x y).bind (fun hp' => ab_X rom K cX9_begins 7 0 20 ls st hp') := ax_iastore dX9_begins_19 rfl
theorem dX9_begins_20 : decode cX9_begins 20 = .ok (.iinc 3 1, 3) := by decide +kernel
theorem sX9_begins_20i : ab_X rom K cX9_begins 7 0 20 (v0 :: v1 :: .int y :: .int x :: ls) st hp = ab_X rom K cX9_begins 7 0 23 (v0 :: v1 :: .int y :: .int (x + 1) :: ls) st hp := ax_iinc dX9_begins_20 rfl (ab_nl_c1 (j := 2) (v := .int y) rfl (ab_c1_int _)) (by decide) rfl rfl
theorem sX9_begins_20r : ab_X rom K cX9_begins 7 0 20 (v0 :: v1 :: .ref a2 :: .int x :: ls) st hp = ab_X rom K cX9_begins 7 0 23 (v0 :: v1 :: .ref a2 :: .int (x + 1) :: ls) st hp := ax_iinc dX9_begins_20 rfl (ab_nl_c1 (j := 2) (v := .ref a2) rfl (ab_c1_ref _)) (by decide) rfl rfl
theorem sX9_begins_20n : ab_X rom K cX9_begins 7 0 20 (v0 :: v1 :: .null :: .int x :: ls) st hp = ab_X rom K cX9_begins 7 0 23 (v0 :: v1 :: .null :: .int (x + 1) :: ls) st hp := ax_iinc dX9_begins_20 rfl (ab_nl_c1 (j := 2) (v := .null) rfl ab_c1_null) (by decide) rfl rfl
theorem dX9_begins_23 : decode cX9_begins 23 = .ok (.goto (-21), 3) := by decide +kernel
theorem sX9_begins_23 : ab_X rom K cX9_begins 7 0 23 ls st hp = ab_X rom K cX9_begins 7 0 2 ls st hp := ax_goto dX9_begins_23 (by decide)
theorem dX9_begins_26 : decode cX9_begins 26 = .ok (.aload_n 0, 1) := by decide +kernel
theorem sX9_begins_26 : ab_X rom K cX9_begins 7 0 26 (.ref a :: ls) st hp = ab_X rom K cX9_begins 7 0 27 (.ref a :: ls) (.ref a :: st) hp := ax_aload_n dX9_begins_26 rfl rfl
theorem dX9_begins_27 : decode cX9_begins 27 = .ok (.getfield 7, 3) := by decide +kernel
theorem sX9_begins_27 : ab_X rom K cX9_begins 7 0 27 ls (.ref a :: st) hp = (ab_fld hp a 7 0).bind (fun v => ab_X rom K cX9_begins 7 0 30 ls (v :: st) hp) := ax_getfield dX9_begins_27 kf_7_7 rfl
theorem dX9_begins_30 : decode cX9_begins 30 = .ok (.bipush 15, 2) := by decide +kernel
theorem sX9_begins_30 : ab_X rom K cX9_begins 7 0 30 ls st hp = ab_X rom K cX9_begins 7 0 32 ls (.int 15 :: st) hp := ax_bipush dX9_begins_30 (by decide) rfl
theorem dX9_begins_32 : decode cX9_begins 32 = .ok (.iload_n 1, 1) := by decide +kernel
theorem sX9_begins_32 : ab_X rom K cX9_begins 7 0 32 (v0 :: .int x :: ls) st hp = ab_X rom K cX9_begins 7 0 33 (v0 :: .int x :: ls) (.int x :: st) hp := ax_iload_n dX9_begins_32 rfl rfl
theorem dX9_begins_33 : decode cX9_begins 33 = .ok (.imul, 1) := by decide +kernel
theorem sX9_begins_33 : ab_X rom K cX9_begins 7 0 33 ls (.int y :: .int x :: st) hp = ab_X rom K cX9_begins 7 0 34 ls (.int (x * y) :: st) hp := ax_imul dX9_begins_33 rfl
theorem dX9_begins_34 : decode cX9_begins 34 = .ok (.iload_n 2, 1) := by decide +kernel
theorem sX9_begins_34 : ab_X rom K cX9_begins 7 0 34 (v0 :: v1 :: .int x :: ls) st hp = ab_X rom K cX9_begins 7 0 35 (v0 :: v1 :: .int x :: ls) (.int x :: st) hp := ax_iload_n dX9_begins_34 rfl rfl
theorem dX9_begins_35 : decode cX9_begins 35 = .ok (.iastore, 1) := by decide +kernel
theorem sX9_begins_35 : ab_X rom K cX9_begins 7 0 35 ls (.int y :: .int x :: .ref a :: st) hp = (ab_awr 0 hp a x y).bind (fun hp' => ab_X rom K cX9_begins 7 0 36 ls st hp') := ax_iastore dX9_begins_35 rfl
theorem dX9_begins_36 : decode cX9_begins 36 = .ok (.iconst 0, 1) := by decide +kernel
theorem sX9_begins_36 : ab_X rom K cX9_begins 7 0 36 ls st hp = ab_X rom K cX9_begins 7 0 37 ls (.int 0 :: st) hp := ax_iconst dX9_begins_36 (by decide) rfl
theorem dX9_begins_37 : decode cX9_begins 37 = .ok (.istore_n 3, 1) := by decide +kernel
theorem sX9_begins_37i : ab_X rom K cX9_begins 7 0 37 (v0 :: v1 :: .int y :: v3 :: ls) (.int x :: st) hp = ab_X rom K cX9_begins 7 0 38 (v0 :: v1 :: .int y :: .int x :: ls) st hp := ax_istore_n dX9_begins_37 (ax_lt (v := v3) rfl) (ab_nl_c1 (j := 2) (v := .int y) rfl (ab_c1_int _)) rfl rfl
theorem sX9_begins_37r : ab_X rom K cX9_begins 7 0 37 (v0 :: v1 :: .ref a2 :: v3 :: ls) (.int x :: st) hp = ab_X rom K cX9_begins 7 0 38 (v0 :: v1 :: .ref a2 :: .int x :: ls) st hp := ax_istore_n dX9_begins_37 (ax_lt (v := v3) rfl) (ab_nl_c1 (j := 2) (v := .ref a2) rfl (ab_c1_ref _)) rfl rfl
theorem sX9_begins_37n : ab_X rom K cX9_begins 7 0 37 (v0 :: v1 :: .null :: v3 :: ls) (.int x :: st) hp = ab_X rom K cX9_begins 7 0 38 (v0 :: v1 :: .null :: .int x :: ls) st hp := ax_istore_n dX9_begins_37 (ax_lt (v := v3) rfl) (ab_nl_c1 (j := 2) (v := .null) rfl ab_c1_null) rfl rfl
theorem dX9_begins_38 : decode cX9_begins 38 = .ok (.iload_n 3, 1) := by decide +kernel
theorem sX9_begins_38 : ab_X rom K cX9_begins 7 0 38 (v0 :: v1 :: v2 :: .int x :: ls) st hp = ab_X rom K cX9_begins 7 0 39 (v0 :: v1 :: v2 :: .int x :: ls) (.int x :: st) hp := ax_iload_n dX9_begins_38 rfl rfl
theorem dX9_begins_39 : decode cX9_begins 39 = .ok (.bipush 7, 2) := by decide +kernel
theorem sX9_begins_39 : ab_X rom K cX9_begins 7 0 39 ls st hp = ab_X rom K cX9_begins 7 0 41 ls (.int 7 :: st) hp := ax_bipush dX9_begins_39 (by decide) rfl
theorem dX9_begins_41 : decode cX9_begins 41 = .ok (.if_icmp .ge 24, 3) := by decide +kernel
theorem sX9_begins_41 : ab_X rom K cX9_begins 7 0 41 ls (.int y :: .int x :: st) hp = if x < y then ab_X rom K cX9_begins 7 0 44 ls st hp else ab_X rom K cX9_begins 7 0 65 ls st hp := ax_icmp_ge dX9_begins_41 (by decide) rfl
theorem dX9_begins_44 : decode cX9_begins 44 = .ok (.aload_n 0, 1) := by decide +kernel
theorem sX9_begins_44 : ab_X rom K cX9_begins 7 0 44 (.ref a :: ls) st hp = ab_X rom K cX9_begins 7 0 45 (.ref a :: ls) (.ref a :: st) hp := ax_aload_n dX9_begins_44 rfl rfl
theorem dX9_begins_45 : decode cX9_begins 45 = .ok (.getfield 7, 3) := by decide +kernel
theorem sX9_begins_45 : ab_X rom K cX9_begins 7 0 45 ls (.ref a :: st) hp = (ab_fld hp a 7 0).bind (fun v => ab_X rom K cX9_begins 7 0 48 ls (v :: st) hp) := ax_getfield dX9_begins_45 kf_7_7 rfl
theorem dX9_begins_48 : decode cX9_begins 48 = .ok (.bipush 15, 2) := by decide +kernel
theorem sX9_begins_48 : ab_X rom K cX9_begins 7 0 48 ls st hp = ab_X rom K cX9_begins 7 0 50 ls (.int 15 :: st) hp := ax_bipush dX9_begins_48 (by decide) rfl
theorem dX9_begins_50 : decode cX9_begins 50 = .ok (.iload_n 1, 1) := by decide +kernel
theorem sX9_begins_50 : ab_X rom K cX9_begins 7 0 50 (v0 :: .int x :: ls) st hp = ab_X rom K cX9_begins 7 0 51 (v0 :: .int x :: ls) (.int x :: st) hp := ax_iload_n dX9_begins_50 rfl rfl
theorem dX9_begins_51 : decode cX9_begins 51 = .ok (.imul, 1) := by decide +kernel
theorem sX9_begins_51 : ab_X rom K cX9_begins 7 0 51 ls (.int y :: .int x :: st) hp = ab_X rom K cX9_begins 7 0 52 ls (.int (x * y) :: st) hp := ax_imul dX9_begins_51 rfl
theorem dX9_begins_52 : decode cX9_begins 52 = .ok (.bipush 8, 2) := by decide +kernel
theorem sX9_begins_52 : ab_X rom K cX9_begins 7 0 52 ls st hp = ab_X rom K cX9_begins 7 0 54 ls (.int 8 :: st) hp := ax_bipush dX9_begins_52 (by decide) rfl
theorem dX9_begins_54 : decode cX9_begins 54 = .ok (.iadd, 1) := by decide +kernel
theorem sX9_begins_54 : ab_X rom K cX9_begins 7 0 54 ls (.int y :: .int x :: st) hp = ab_X rom K cX9_begins 7 0 55 ls (.int (x + y) :: st) hp := ax_iadd dX9_begins_54 rfl
theorem dX9_begins_55 : decode cX9_begins 55 = .ok (.iload_n 3, 1) := by decide +kernel
theorem sX9_begins_55 : ab_X rom K cX9_begins 7 0 55 (v0 :: v1 :: v2 :: .int x :: ls) st hp = ab_X rom K cX9_begins 7 0 56 (v0 :: v1 :: v2 :: .int x :: ls) (.int x :: st) hp := ax_iload_n dX9_begins_55 rfl rfl
theorem dX9_begins_56 : decode cX9_begins 56 = .ok (.iadd, 1) := by decide +kernel
theorem sX9_begins_56 : ab_X rom K cX9_begins 7 0 56 ls (.int y :: .int x :: st) hp = ab_X rom K cX9_begins 7 0 57 ls (.int (x + y) :: st) hp := ax_iadd dX9_begins_56 rfl
theorem dX9_begins_57 : decode cX9_begins 57 = .ok (.iconst (-1), 1) := by decide +kernel
theorem sX9_begins_57 : ab_X rom K cX9_begins 7 0 57 ls st hp = ab_X rom K cX9_begins 7 0 58 ls (.int (-1) :: st) hp := ax_iconst dX9_begins_57 (by decide) rfl
theorem dX9_begins_58 : decode cX9_begins 58 = .ok (.iastore, 1) := by decide +kernel
theorem sX9_begins_58 : ab_X rom K cX9_begins 7 0 58 ls (.int y :: .int x :: .ref a :: st) hp = (ab_awr 0 hp a x y).bind (fun hp' => ab_X rom K cX9_begins 7 0 59 ls st hp') := ax_iastore dX9_begins_58 rfl
theorem dX9_begins_59 : decode cX9_begins 59 = .ok (.iinc 3 1, 3) := by decide +kernel
theorem sX9_begins_59i : ab_X rom K cX9_begins 7 0 59 (v0 :: v1 :: .int y :: .int x :: ls) st hp = ab_X rom K cX9_begins 7 0 62 (v0 :: v1 :: .int y :: .int (x + 1) :: ls) st hp := ax_iinc dX9_begins_59 rfl (ab_nl_c1 (j := 2) (v := .int y) rfl (ab_c1_int _)) (by decide) rfl rfl
theorem sX9_begins_59r : ab_X rom K cX9_begins 7 0 59 (v0 :: v1 :: .ref a2 :: .int x :: ls) st hp = ab_X rom K cX9_begins 7 0 62 (v0 :: v1 :: .ref a2 :: .int (x + 1) :: ls) st hp := ax_iinc dX9_begins_59 rfl (ab_nl_c1 (j := 2) (v := .ref a2) rfl (ab_c1_ref _)) (by decide) rfl rfl
theorem sX9_begins_59n : ab_X rom K cX9_begins 7 0 59 (v0 :: v1 :: .null :: .int x :: ls) st hp = ab_X rom K cX9_begins 7 0 62 (v0 :: v1 :: .null :: .int (x + 1) :: ls) st hp := ax_iinc dX9_begins_59 rfl (ab_nl_c1 (j := 2) (v := .null) rfl ab_c1_null) (by decide) rfl rfl
theorem dX9_begins_62 : decode cX9_begins 62 = .ok (.goto (-24), 3) := by decide +kernel
theorem sX9_begins_62 : ab_X rom K cX9_begins 7 0 62 ls st hp = ab_X rom K cX9_begins 7 0 38 ls st hp := ax_goto dX9_begins_62 (by decide)
theorem dX9_begins_65 : decode cX9_begins 65 = .ok (.return_, 1) := by decide +kernel
theorem sX9_begins_65 : ab_X rom K cX9_begins 7 0 65 ls [] hp = some (none, hp) := ax_vret dX9_begins_65 (by decide)
theorem tX9_comes : ab_mT[139]? = some (yX9_comes, cX9_comes, 3, 0, 7) := by decide +kernel
theorem mX9_comes {d : Nat} {a0 : Nat} {x0 : Int32} : ab_M rom (d + 1) 139 [.ref a0, .int x0] hp = ab_X rom (ab_M rom d) cX9_comes 7 0 0 [.ref a0, .int x0, .null] [] hp := ab_M_eq tX9_comes (Nat.le_of_ble_eq_true rfl)
theorem dX9_comes_0 : decode cX9_comes 0 = .ok (.aload_n 0, 1) := by decide +kernel
theorem sX9_comes_0 : ab_X rom K cX9_comes 7 0 0 (.ref a :: ls) st hp = ab_X rom K cX9_comes 7 0 1 (.ref a :: ls) (.ref a :: st) hp := ax_aload_n dX9_comes_0 rfl rfl
theorem dX9_comes_1 : decode cX9_comes 1 = .ok (.invokevirtual 87, 3) := by decide +kernel
theorem sX9_comes_1_0 : ab_X rom K cX9_comes 7 0 1 ls [.ref a] hp = if ab_iso hp a 7 = true then (K 214 (.ref a :: []) hp).bind (fun o => ab_X rom K cX9_comes 7 0 4 ls (o.1.toList ++ []) o.2) else none := ay_virtual (as := []) (st := []) dX9_comes_1 kc_7_87 rfl rfl (Nat.le_of_ble_eq_true rfl)
theorem sX9_comes_1_1 : ab_X rom K cX9_comes 7 0 1 ls [.ref a, v0] hp = if ab_iso hp a 7 = true then (K 214 (.ref a :: []) hp).bind (fun o => ab_X rom K cX9_comes 7 0 4 ls (o.1.toList ++ [v0]) o.2) else none := ay_virtual (as := []) (st := [v0]) dX9_comes_1 kc_7_87 rfl rfl (Nat.le_of_ble_eq_true rfl)
theorem sX9_comes_1_2 : ab_X rom K cX9_comes 7 0 1 ls [.ref a, v0, v1] hp = if ab_iso hp a 7 = true then (K 214 (.ref a :: []) hp).bind (fun o => ab_X rom K cX9_comes 7 0 4 ls (o.1.toList ++ [v0, v1]) o.2) else none := ay_virtual (as := []) (st := [v0, v1]) dX9_comes_1 kc_7_87 rfl rfl (Nat.le_of_ble_eq_true rfl)
theorem sX9_comes_1_3 : ab_X rom K cX9_comes 7 0 1 ls [.ref a, v0, v1, v2] hp = if ab_iso hp a 7 = true then (K 214 (.ref a :: []) hp).bind (fun o => ab_X rom K cX9_comes 7 0 4 ls (o.1.toList ++ [v0, v1, v2]) o.2) else none := ay_virtual (as := []) (st := [v0, v1, v2]) dX9_comes_1 kc_7_87 rfl rfl (Nat.le_of_ble_eq_true rfl)
theorem dX9_comes_4 : decode cX9_comes 4 = .ok (.iconst 0, 1) := by decide +kernel
theorem sX9_comes_4 : ab_X rom K cX9_comes 7 0 4 ls st hp = ab_X rom K cX9_comes 7 0 5 ls (.int 0 :: st) hp := ax_iconst dX9_comes_4 (by decide) rfl
theorem dX9_comes_5 : decode cX9_comes 5 = .ok (.istore_n 2, 1) := by decide +kernel
theorem sX9_comes_5i : ab_X rom K cX9_comes 7 0 5 (v0 :: .int y :: v2 :: ls) (.int x :: st) hp = ab_X rom K cX9_comes 7 0 6 (v0 :: .int y :: .int x :: ls) st hp := ax_istore_n dX9_comes_5 (ax_lt (v := v2) rfl) (ab_nl_c1 (j := 1) (v := .int y) rfl (ab_c1_int _)) rfl rfl
theorem sX9_comes_5r : ab_X rom K cX9_comes 7 0 5 (v0 :: .ref a2 :: v2 :: ls) (.int x :: st) hp = ab_X rom K cX9_comes 7 0 6 (v0 :: .ref a2 :: .int x :: ls) st hp := ax_istore_n dX9_comes_5 (ax_lt (v := v2) rfl) (ab_nl_c1 (j := 1) (v := .ref a2) rfl (ab_c1_ref _)) rfl rfl
theorem sX9_comes_5n : ab_X rom K cX9_comes 7 0 5 (v0 :: .null :: v2 :: ls) (.int x :: st) hp = ab_X rom K cX9_comes 7 0 6 (v0 :: .null :: .int x :: ls) st hp := ax_istore_n dX9_comes_5 (ax_lt (v := v2) rfl) (ab_nl_c1 (j := 1) (v := .null) rfl ab_c1_null) rfl rfl
theorem dX9_comes_6 : decode cX9_comes 6 = .ok (.iload_n 2, 1) := by decide +kernel
theorem sX9_comes_6 : ab_X rom K cX9_comes 7 0 6 (v0 :: v1 :: .int x :: ls) st hp = ab_X rom K cX9_comes 7 0 7 (v0 :: v1 :: .int x :: ls) (.int x :: st) hp := ax_iload_n dX9_comes_6 rfl rfl
theorem dX9_comes_7 : decode cX9_comes 7 = .ok (.bipush 15, 2) := by decide +kernel
theorem sX9_comes_7 : ab_X rom K cX9_comes 7 0 7 ls st hp = ab_X rom K cX9_comes 7 0 9 ls (.int 15 :: st) hp := ax_bipush dX9_comes_7 (by decide) rfl
theorem dX9_comes_9 : decode cX9_comes 9 = .ok (.if_icmp .ge 26, 3) := by decide +kernel
theorem sX9_comes_9 : ab_X rom K cX9_comes 7 0 9 ls (.int y :: .int x :: st) hp = if x < y then ab_X rom K cX9_comes 7 0 12 ls st hp else ab_X rom K cX9_comes 7 0 35 ls st hp := ax_icmp_ge dX9_comes_9 (by decide) rfl
theorem dX9_comes_12 : decode cX9_comes 12 = .ok (.aload_n 0, 1) := by decide +kernel
theorem sX9_comes_12 : ab_X rom K cX9_comes 7 0 12 (.ref a :: ls) st hp = ab_X rom K cX9_comes 7 0 13 (.ref a :: ls) (.ref a :: st) hp := ax_aload_n dX9_comes_12 rfl rfl
theorem dX9_comes_13 : decode cX9_comes 13 = .ok (.getfield 7, 3) := by decide +kernel
theorem sX9_comes_13 : ab_X rom K cX9_comes 7 0 13 ls (.ref a :: st) hp = (ab_fld hp a 7 0).bind (fun v => ab_X rom K cX9_comes 7 0 16 ls (v :: st) hp) := ax_getfield dX9_comes_13 kf_7_7 rfl
theorem dX9_comes_16 : decode cX9_comes 16 = .ok (.bipush 15, 2) := by decide +kernel
theorem sX9_comes_16 : ab_X rom K cX9_comes 7 0 16 ls st hp = ab_X rom K cX9_comes 7 0 18 ls (.int 15 :: st) hp := ax_bipush dX9_comes_16 (by decide) rfl
theorem dX9_comes_18 : decode cX9_comes 18 = .ok (.iload_n 1, 1) := by decide +kernel
theorem sX9_comes_18 : ab_X rom K cX9_comes 7 0 18 (v0 :: .int x :: ls) st hp = ab_X rom K cX9_comes 7 0 19 (v0 :: .int x :: ls) (.int x :: st) hp := ax_iload_n dX9_comes_18 rfl rfl
theorem dX9_comes_19 : decode cX9_comes 19 = .ok (.imul, 1) := by decide +kernel
theorem sX9_comes_19 : ab_X rom K cX9_comes 7 0 19 ls (.int y :: .int x :: st) hp = ab_X rom K cX9_comes 7 0 20 ls (.int (x * y) :: st) hp := ax_imul dX9_comes_19 rfl
theorem dX9_comes_20 : decode cX9_comes 20 = .ok (.iload_n 2, 1) := by decide +kernel
theorem sX9_comes_20 : ab_X rom K cX9_comes 7 0 20 (v0 :: v1 :: .int x :: ls) st hp = ab_X rom K cX9_comes 7 0 21 (v0 :: v1 :: .int x :: ls) (.int x :: st) hp := ax_iload_n dX9_comes_20 rfl rfl
theorem dX9_comes_21 : decode cX9_comes 21 = .ok (.iadd, 1) := by decide +kernel
theorem sX9_comes_21 : ab_X rom K cX9_comes 7 0 21 ls (.int y :: .int x :: st) hp = ab_X rom K cX9_comes 7 0 22 ls (.int (x + y) :: st) hp := ax_iadd dX9_comes_21 rfl
theorem dX9_comes_22 : decode cX9_comes 22 = .ok (.aload_n 0, 1) := by decide +kernel
theorem sX9_comes_22 : ab_X rom K cX9_comes 7 0 22 (.ref a :: ls) st hp = ab_X rom K cX9_comes 7 0 23 (.ref a :: ls) (.ref a :: st) hp := ax_aload_n dX9_comes_22 rfl rfl
theorem dX9_comes_23 : decode cX9_comes 23 = .ok (.getfield 41, 3) := by decide +kernel
theorem sX9_comes_23 : ab_X rom K cX9_comes 7 0 23 ls (.ref a :: st) hp = (ab_fld hp a 7 24).bind (fun v => ab_X rom K cX9_comes 7 0 26 ls (v :: st) hp) := ax_getfield dX9_comes_23 kf_7_41 rfl
theorem dX9_comes_26 : decode cX9_comes 26 = .ok (.iload_n 2, 1) := by decide +kernel
theorem sX9_comes_26 : ab_X rom K cX9_comes 7 0 26 (v0 :: v1 :: .int x :: ls) st hp = ab_X rom K cX9_comes 7 0 27 (v0 :: v1 :: .int x :: ls) (.int x :: st) hp := ax_iload_n dX9_comes_26 rfl rfl
theorem dX9_comes_27 : decode cX9_comes 27 = .ok (.iaload, 1) := by decide +kernel
theorem sX9_comes_27 : ab_X rom K cX9_comes 7 0 27 ls (.int x :: .ref a :: st) hp = (ab_ard rom 0 hp a x).bind (fun v => ab_X rom K cX9_comes 7 0 28 ls (.int v :: st) hp) := ax_iaload dX9_comes_27 rfl
theorem dX9_comes_28 : decode cX9_comes 28 = .ok (.iastore, 1) := by decide +kernel
theorem sX9_comes_28 : ab_X rom K cX9_comes 7 0 28 ls (.int y :: .int x :: .ref a :: st) hp = (ab_awr 0 hp a x y).bind (fun hp' => ab_X rom K cX9_comes 7 0 29 ls st hp') := ax_iastore dX9_comes_28 rfl
theorem dX9_comes_29 : decode cX9_comes 29 = .ok (.iinc 2 1, 3) := by decide +kernel
theorem sX9_comes_29i : ab_X rom K cX9_comes 7 0 29 (v0 :: .int y :: .int x :: ls) st hp = ab_X rom K cX9_comes 7 0 32 (v0 :: .int y :: .int (x + 1) :: ls) st hp := ax_iinc dX9_comes_29 rfl (ab_nl_c1 (j := 1) (v := .int y) rfl (ab_c1_int _)) (by decide) rfl rfl
theorem sX9_comes_29r : ab_X rom K cX9_comes 7 0 29 (v0 :: .ref a2 :: .int x :: ls) st hp = ab_X rom K cX9_comes 7 0 32 (v0 :: .ref a2 :: .int (x + 1) :: ls) st hp := ax_iinc dX9_comes_29 rfl (ab_nl_c1 (j := 1) (v := .ref a2) rfl (ab_c1_ref _)) (by decide) rfl rfl
theorem sX9_comes_29n : ab_X rom K cX9_comes 7 0 29 (v0 :: .null :: .int x :: ls) st hp = ab_X rom K cX9_comes 7 0 32 (v0 :: .null :: .int (x + 1) :: ls) st hp := ax_iinc dX9_comes_29 rfl (ab_nl_c1 (j := 1) (v := .null) rfl ab_c1_null) (by decide) rfl rfl
theorem dX9_comes_32 : decode cX9_comes 32 = .ok (.goto (-26), 3) := by decide +kernel
theorem sX9_comes_32 : ab_X rom K cX9_comes 7 0 32 ls st hp = ab_X rom K cX9_comes 7 0 6 ls st hp := ax_goto dX9_comes_32 (by decide)
theorem dX9_comes_35 : decode cX9_comes 35 = .ok (.return_, 1) := by decide +kernel
theorem sX9_comes_35 : ab_X rom K cX9_comes 7 0 35 ls [] hp = some (none, hp) := ax_vret dX9_comes_35 (by decide)
theorem tX9_could : ab_mT[140]? = some (yX9_could, cX9_could, 5, 1, 7) := by decide +kernel
theorem mX9_could {d : Nat} {a0 : Nat} {x0 : Int32} {x1 : Int32} {x2 : Int32} : ab_M rom (d + 1) 140 [.ref a0, .int x0, .int x1, .int x2] hp = ab_X rom (ab_M rom d) cX9_could 7 1 0 [.ref a0, .int x0, .int x1, .int x2, .null] [] hp := ab_M_eq tX9_could (Nat.le_of_ble_eq_true rfl)
theorem dX9_could_0 : decode cX9_could 0 = .ok (.aload_n 0, 1) := by decide +kernel
theorem sX9_could_0 : ab_X rom K cX9_could 7 1 0 (.ref a :: ls) st hp = ab_X rom K cX9_could 7 1 1 (.ref a :: ls) (.ref a :: st) hp := ax_aload_n dX9_could_0 rfl rfl
theorem dX9_could_1 : decode cX9_could 1 = .ok (.iload_n 1, 1) := by decide +kernel
theorem sX9_could_1 : ab_X rom K cX9_could 7 1 1 (v0 :: .int x :: ls) st hp = ab_X rom K cX9_could 7 1 2 (v0 :: .int x :: ls) (.int x :: st) hp := ax_iload_n dX9_could_1 rfl rfl
theorem dX9_could_2 : decode cX9_could 2 = .ok (.iload_n 3, 1) := by decide +kernel
theorem sX9_could_2 : ab_X rom K cX9_could 7 1 2 (v0 :: v1 :: v2 :: .int x :: ls) st hp = ab_X rom K cX9_could 7 1 3 (v0 :: v1 :: v2 :: .int x :: ls) (.int x :: st) hp := ax_iload_n dX9_could_2 rfl rfl
theorem dX9_could_3 : decode cX9_could 3 = .ok (.invokevirtual 216, 3) := by decide +kernel
theorem sX9_could_3_0 : ab_X rom K cX9_could 7 1 3 ls [w2, w1, .ref a] hp = if ab_iso hp a 7 = true then (K 173 (.ref a :: [w1, w2]) hp).bind (fun o => ab_X rom K cX9_could 7 1 6 ls (o.1.toList ++ []) o.2) else none := ay_virtual (as := [w1, w2]) (st := []) dX9_could_3 kc_7_216 rfl rfl (Nat.le_of_ble_eq_true rfl)
theorem sX9_could_3_1 : ab_X rom K cX9_could 7 1 3 ls [w2, w1, .ref a, v0] hp = if ab_iso hp a 7 = true then (K 173 (.ref a :: [w1, w2]) hp).bind (fun o => ab_X rom K cX9_could 7 1 6 ls (o.1.toList ++ [v0]) o.2) else none := ay_virtual (as := [w1, w2]) (st := [v0]) dX9_could_3 kc_7_216 rfl rfl (Nat.le_of_ble_eq_true rfl)
theorem sX9_could_3_2 : ab_X rom K cX9_could 7 1 3 ls [w2, w1, .ref a, v0, v1] hp = if ab_iso hp a 7 = true then (K 173 (.ref a :: [w1, w2]) hp).bind (fun o => ab_X rom K cX9_could 7 1 6 ls (o.1.toList ++ [v0, v1]) o.2) else none := ay_virtual (as := [w1, w2]) (st := [v0, v1]) dX9_could_3 kc_7_216 rfl rfl (Nat.le_of_ble_eq_true rfl)
theorem sX9_could_3_3 : ab_X rom K cX9_could 7 1 3 ls [w2, w1, .ref a, v0, v1, v2] hp = if ab_iso hp a 7 = true then (K 173 (.ref a :: [w1, w2]) hp).bind (fun o => ab_X rom K cX9_could 7 1 6 ls (o.1.toList ++ [v0, v1, v2]) o.2) else none := ay_virtual (as := [w1, w2]) (st := [v0, v1, v2]) dX9_could_3 kc_7_216 rfl rfl (Nat.le_of_ble_eq_true rfl)
theorem dX9_could_6 : decode cX9_could 6 = .ok (.ifCond .eq 10, 3) := by decide +kernel
theorem sX9_could_6 : ab_X rom K cX9_could 7 1 6 ls (.int x :: st) hp = if x = 0 then ab_X rom K cX9_could 7 1 16 ls st hp else ab_X rom K cX9_could 7 1 9 ls st hp := ax_if_eq dX9_could_6 (by decide) rfl
theorem dX9_could_9 : decode cX9_could 9 = .ok (.iload_n 2, 1) := by decide +kernel
theorem sX9_could_9 : ab_X rom K cX9_could 7 1 9 (v0 :: v1 :: .int x :: ls) st hp = ab_X rom K cX9_could 7 1 10 (v0 :: v1 :: .int x :: ls) (.int x :: st) hp := ax_iload_n dX9_could_9 rfl rfl
theorem dX9_could_10 : decode cX9_could 10 = .ok (.invokestatic 278, 3) := by decide +kernel
theorem sX9_could_10_0 : ab_X rom K cX9_could 7 1 10 ls [w1] hp = (K 168 [w1] hp).bind (fun o => ab_X rom K cX9_could 7 1 13 ls (o.1.toList ++ []) o.2) := ax_static (as := [w1]) (st := []) dX9_could_10 kc_7_278 rfl rfl (Nat.le_of_ble_eq_true rfl)
theorem sX9_could_10_1 : ab_X rom K cX9_could 7 1 10 ls [w1, v0] hp = (K 168 [w1] hp).bind (fun o => ab_X rom K cX9_could 7 1 13 ls (o.1.toList ++ [v0]) o.2) := ax_static (as := [w1]) (st := [v0]) dX9_could_10 kc_7_278 rfl rfl (Nat.le_of_ble_eq_true rfl)
theorem sX9_could_10_2 : ab_X rom K cX9_could 7 1 10 ls [w1, v0, v1] hp = (K 168 [w1] hp).bind (fun o => ab_X rom K cX9_could 7 1 13 ls (o.1.toList ++ [v0, v1]) o.2) := ax_static (as := [w1]) (st := [v0, v1]) dX9_could_10 kc_7_278 rfl rfl (Nat.le_of_ble_eq_true rfl)
theorem sX9_could_10_3 : ab_X rom K cX9_could 7 1 10 ls [w1, v0, v1, v2] hp = (K 168 [w1] hp).bind (fun o => ab_X rom K cX9_could 7 1 13 ls (o.1.toList ++ [v0, v1, v2]) o.2) := ax_static (as := [w1]) (st := [v0, v1, v2]) dX9_could_10 kc_7_278 rfl rfl (Nat.le_of_ble_eq_true rfl)
theorem dX9_could_13 : decode cX9_could 13 = .ok (.ifCond .ne 6, 3) := by decide +kernel
theorem sX9_could_13 : ab_X rom K cX9_could 7 1 13 ls (.int x :: st) hp = if x = 0 then ab_X rom K cX9_could 7 1 16 ls st hp else ab_X rom K cX9_could 7 1 19 ls st hp := ax_if_ne dX9_could_13 (by decide) rfl
theorem dX9_could_16 : decode cX9_could 16 = .ok (.bipush (-2), 2) := by decide +kernel
theorem sX9_could_16 : ab_X rom K cX9_could 7 1 16 ls st hp = ab_X rom K cX9_could 7 1 18 ls (.int (-2) :: st) hp := ax_bipush dX9_could_16 (by decide) rfl
theorem dX9_could_18 : decode cX9_could 18 = .ok (.ireturn, 1) := by decide +kernel
theorem sX9_could_18 : ab_X rom K cX9_could 7 1 18 ls [.int x] hp = some (some (.int x), hp) := ax_iret dX9_could_18 rfl
theorem dX9_could_19 : decode cX9_could 19 = .ok (.aload_n 0, 1) := by decide +kernel
theorem sX9_could_19 : ab_X rom K cX9_could 7 1 19 (.ref a :: ls) st hp = ab_X rom K cX9_could 7 1 20 (.ref a :: ls) (.ref a :: st) hp := ax_aload_n dX9_could_19 rfl rfl
theorem dX9_could_20 : decode cX9_could 20 = .ok (.iload_n 1, 1) := by decide +kernel
theorem sX9_could_20 : ab_X rom K cX9_could 7 1 20 (v0 :: .int x :: ls) st hp = ab_X rom K cX9_could 7 1 21 (v0 :: .int x :: ls) (.int x :: st) hp := ax_iload_n dX9_could_20 rfl rfl
theorem dX9_could_21 : decode cX9_could 21 = .ok (.iload_n 2, 1) := by decide +kernel
theorem sX9_could_21 : ab_X rom K cX9_could 7 1 21 (v0 :: v1 :: .int x :: ls) st hp = ab_X rom K cX9_could 7 1 22 (v0 :: v1 :: .int x :: ls) (.int x :: st) hp := ax_iload_n dX9_could_21 rfl rfl
theorem dX9_could_22 : decode cX9_could 22 = .ok (.bipush 127, 2) := by decide +kernel
theorem sX9_could_22 : ab_X rom K cX9_could 7 1 22 ls st hp = ab_X rom K cX9_could 7 1 24 ls (.int 127 :: st) hp := ax_bipush dX9_could_22 (by decide) rfl
theorem dX9_could_24 : decode cX9_could 24 = .ok (.iconst 0, 1) := by decide +kernel
theorem sX9_could_24 : ab_X rom K cX9_could 7 1 24 ls st hp = ab_X rom K cX9_could 7 1 25 ls (.int 0 :: st) hp := ax_iconst dX9_could_24 (by decide) rfl
theorem dX9_could_25 : decode cX9_could 25 = .ok (.invokevirtual 302, 3) := by decide +kernel
theorem sX9_could_25_0 : ab_X rom K cX9_could 7 1 25 ls [w4, w3, w2, w1, .ref a] hp = if ab_iso hp a 7 = true then (K 221 (.ref a :: [w1, w2, w3, w4]) hp).bind (fun o => ab_X rom K cX9_could 7 1 28 ls (o.1.toList ++ []) o.2) else none := ay_virtual (as := [w1, w2, w3, w4]) (st := []) dX9_could_25 kc_7_302 rfl rfl (Nat.le_of_ble_eq_true rfl)
theorem sX9_could_25_1 : ab_X rom K cX9_could 7 1 25 ls [w4, w3, w2, w1, .ref a, v0] hp = if ab_iso hp a 7 = true then (K 221 (.ref a :: [w1, w2, w3, w4]) hp).bind (fun o => ab_X rom K cX9_could 7 1 28 ls (o.1.toList ++ [v0]) o.2) else none := ay_virtual (as := [w1, w2, w3, w4]) (st := [v0]) dX9_could_25 kc_7_302 rfl rfl (Nat.le_of_ble_eq_true rfl)
theorem sX9_could_25_2 : ab_X rom K cX9_could 7 1 25 ls [w4, w3, w2, w1, .ref a, v0, v1] hp = if ab_iso hp a 7 = true then (K 221 (.ref a :: [w1, w2, w3, w4]) hp).bind (fun o => ab_X rom K cX9_could 7 1 28 ls (o.1.toList ++ [v0, v1]) o.2) else none := ay_virtual (as := [w1, w2, w3, w4]) (st := [v0, v1]) dX9_could_25 kc_7_302 rfl rfl (Nat.le_of_ble_eq_true rfl)
theorem sX9_could_25_3 : ab_X rom K cX9_could 7 1 25 ls [w4, w3, w2, w1, .ref a, v0, v1, v2] hp = if ab_iso hp a 7 = true then (K 221 (.ref a :: [w1, w2, w3, w4]) hp).bind (fun o => ab_X rom K cX9_could 7 1 28 ls (o.1.toList ++ [v0, v1, v2]) o.2) else none := ay_virtual (as := [w1, w2, w3, w4]) (st := [v0, v1, v2]) dX9_could_25 kc_7_302 rfl rfl (Nat.le_of_ble_eq_true rfl)
theorem dX9_could_28 : decode cX9_could 28 = .ok (.istore 4, 2) := by decide +kernel
theorem sX9_could_28i : ab_X rom K cX9_could 7 1 28 (v0 :: v1 :: v2 :: .int y :: v4 :: ls) (.int x :: st) hp = ab_X rom K cX9_could 7 1 30 (v0 :: v1 :: v2 :: .int y :: .int x :: ls) st hp := ax_istore dX9_could_28 (ax_lt (v := v4) rfl) (ab_nl_c1 (j := 3) (v := .int y) rfl (ab_c1_int _)) rfl rfl
theorem sX9_could_28r : ab_X rom K cX9_could 7 1 28 (v0 :: v1 :: v2 :: .ref a2 :: v4 :: ls) (.int x :: st) hp = ab_X rom K cX9_could 7 1 30 (v0 :: v1 :: v2 :: .ref a2 :: .int x :: ls) st hp := ax_istore dX9_could_28 (ax_lt (v := v4) rfl) (ab_nl_c1 (j := 3) (v := .ref a2) rfl (ab_c1_ref _)) rfl rfl
theorem sX9_could_28n : ab_X rom K cX9_could 7 1 28 (v0 :: v1 :: v2 :: .null :: v4 :: ls) (.int x :: st) hp = ab_X rom K cX9_could 7 1 30 (v0 :: v1 :: v2 :: .null :: .int x :: ls) st hp := ax_istore dX9_could_28 (ax_lt (v := v4) rfl) (ab_nl_c1 (j := 3) (v := .null) rfl ab_c1_null) rfl rfl
theorem dX9_could_30 : decode cX9_could 30 = .ok (.aload_n 0, 1) := by decide +kernel
theorem sX9_could_30 : ab_X rom K cX9_could 7 1 30 (.ref a :: ls) st hp = ab_X rom K cX9_could 7 1 31 (.ref a :: ls) (.ref a :: st) hp := ax_aload_n dX9_could_30 rfl rfl
theorem dX9_could_31 : decode cX9_could 31 = .ok (.getfield 38, 3) := by decide +kernel
theorem sX9_could_31 : ab_X rom K cX9_could 7 1 31 ls (.ref a :: st) hp = (ab_fld hp a 7 20).bind (fun v => ab_X rom K cX9_could 7 1 34 ls (v :: st) hp) := ax_getfield dX9_could_31 kf_7_38 rfl
theorem dX9_could_34 : decode cX9_could 34 = .ok (.iload_n 3, 1) := by decide +kernel
theorem sX9_could_34 : ab_X rom K cX9_could 7 1 34 (v0 :: v1 :: v2 :: .int x :: ls) st hp = ab_X rom K cX9_could 7 1 35 (v0 :: v1 :: v2 :: .int x :: ls) (.int x :: st) hp := ax_iload_n dX9_could_34 rfl rfl
theorem dX9_could_35 : decode cX9_could 35 = .ok (.iaload, 1) := by decide +kernel
theorem sX9_could_35 : ab_X rom K cX9_could 7 1 35 ls (.int x :: .ref a :: st) hp = (ab_ard rom 0 hp a x).bind (fun v => ab_X rom K cX9_could 7 1 36 ls (.int v :: st) hp) := ax_iaload dX9_could_35 rfl
theorem dX9_could_36 : decode cX9_could 36 = .ok (.ireturn, 1) := by decide +kernel
theorem sX9_could_36 : ab_X rom K cX9_could 7 1 36 ls [.int x] hp = some (some (.int x), hp) := ax_iret dX9_could_36 rfl
theorem tX9_count : ab_mT[141]? = some (yX9_count, cX9_count, 4, 1, 7) := by decide +kernel
theorem mX9_count {d : Nat} {a0 : Nat} {x0 : Int32} : ab_M rom (d + 1) 141 [.ref a0, .int x0] hp = ab_X rom (ab_M rom d) cX9_count 7 1 0 [.ref a0, .int x0, .null, .null] [] hp := ab_M_eq tX9_count (Nat.le_of_ble_eq_true rfl)
theorem dX9_count_0 : decode cX9_count 0 = .ok (.iconst 0, 1) := by decide +kernel
theorem sX9_count_0 : ab_X rom K cX9_count 7 1 0 ls st hp = ab_X rom K cX9_count 7 1 1 ls (.int 0 :: st) hp := ax_iconst dX9_count_0 (by decide) rfl
theorem dX9_count_1 : decode cX9_count 1 = .ok (.istore_n 2, 1) := by decide +kernel
theorem sX9_count_1i : ab_X rom K cX9_count 7 1 1 (v0 :: .int y :: v2 :: ls) (.int x :: st) hp = ab_X rom K cX9_count 7 1 2 (v0 :: .int y :: .int x :: ls) st hp := ax_istore_n dX9_count_1 (ax_lt (v := v2) rfl) (ab_nl_c1 (j := 1) (v := .int y) rfl (ab_c1_int _)) rfl rfl
theorem sX9_count_1r : ab_X rom K cX9_count 7 1 1 (v0 :: .ref a2 :: v2 :: ls) (.int x :: st) hp = ab_X rom K cX9_count 7 1 2 (v0 :: .ref a2 :: .int x :: ls) st hp := ax_istore_n dX9_count_1 (ax_lt (v := v2) rfl) (ab_nl_c1 (j := 1) (v := .ref a2) rfl (ab_c1_ref _)) rfl rfl
theorem sX9_count_1n : ab_X rom K cX9_count 7 1 1 (v0 :: .null :: v2 :: ls) (.int x :: st) hp = ab_X rom K cX9_count 7 1 2 (v0 :: .null :: .int x :: ls) st hp := ax_istore_n dX9_count_1 (ax_lt (v := v2) rfl) (ab_nl_c1 (j := 1) (v := .null) rfl ab_c1_null) rfl rfl
theorem dX9_count_2 : decode cX9_count 2 = .ok (.iconst 0, 1) := by decide +kernel
theorem sX9_count_2 : ab_X rom K cX9_count 7 1 2 ls st hp = ab_X rom K cX9_count 7 1 3 ls (.int 0 :: st) hp := ax_iconst dX9_count_2 (by decide) rfl
theorem dX9_count_3 : decode cX9_count 3 = .ok (.istore_n 3, 1) := by decide +kernel
theorem sX9_count_3i : ab_X rom K cX9_count 7 1 3 (v0 :: v1 :: .int y :: v3 :: ls) (.int x :: st) hp = ab_X rom K cX9_count 7 1 4 (v0 :: v1 :: .int y :: .int x :: ls) st hp := ax_istore_n dX9_count_3 (ax_lt (v := v3) rfl) (ab_nl_c1 (j := 2) (v := .int y) rfl (ab_c1_int _)) rfl rfl
theorem sX9_count_3r : ab_X rom K cX9_count 7 1 3 (v0 :: v1 :: .ref a2 :: v3 :: ls) (.int x :: st) hp = ab_X rom K cX9_count 7 1 4 (v0 :: v1 :: .ref a2 :: .int x :: ls) st hp := ax_istore_n dX9_count_3 (ax_lt (v := v3) rfl) (ab_nl_c1 (j := 2) (v := .ref a2) rfl (ab_c1_ref _)) rfl rfl
theorem sX9_count_3n : ab_X rom K cX9_count 7 1 3 (v0 :: v1 :: .null :: v3 :: ls) (.int x :: st) hp = ab_X rom K cX9_count 7 1 4 (v0 :: v1 :: .null :: .int x :: ls) st hp := ax_istore_n dX9_count_3 (ax_lt (v := v3) rfl) (ab_nl_c1 (j := 2) (v := .null) rfl ab_c1_null) rfl rfl
theorem dX9_count_4 : decode cX9_count 4 = .ok (.iload_n 3, 1) := by decide +kernel
theorem sX9_count_4 : ab_X rom K cX9_count 7 1 4 (v0 :: v1 :: v2 :: .int x :: ls) st hp = ab_X rom K cX9_count 7 1 5 (v0 :: v1 :: v2 :: .int x :: ls) (.int x :: st) hp := ax_iload_n dX9_count_4 rfl rfl
theorem dX9_count_5 : decode cX9_count 5 = .ok (.iconst 3, 1) := by decide +kernel
theorem sX9_count_5 : ab_X rom K cX9_count 7 1 5 ls st hp = ab_X rom K cX9_count 7 1 6 ls (.int 3 :: st) hp := ax_iconst dX9_count_5 (by decide) rfl
theorem dX9_count_6 : decode cX9_count 6 = .ok (.if_icmp .ge 27, 3) := by decide +kernel
theorem sX9_count_6 : ab_X rom K cX9_count 7 1 6 ls (.int y :: .int x :: st) hp = if x < y then ab_X rom K cX9_count 7 1 9 ls st hp else ab_X rom K cX9_count 7 1 33 ls st hp := ax_icmp_ge dX9_count_6 (by decide) rfl
theorem dX9_count_9 : decode cX9_count 9 = .ok (.iload_n 2, 1) := by decide +kernel
theorem sX9_count_9 : ab_X rom K cX9_count 7 1 9 (v0 :: v1 :: .int x :: ls) st hp = ab_X rom K cX9_count 7 1 10 (v0 :: v1 :: .int x :: ls) (.int x :: st) hp := ax_iload_n dX9_count_9 rfl rfl
theorem dX9_count_10 : decode cX9_count 10 = .ok (.aload_n 0, 1) := by decide +kernel
theorem sX9_count_10 : ab_X rom K cX9_count 7 1 10 (.ref a :: ls) st hp = ab_X rom K cX9_count 7 1 11 (.ref a :: ls) (.ref a :: st) hp := ax_aload_n dX9_count_10 rfl rfl
theorem dX9_count_11 : decode cX9_count 11 = .ok (.iload_n 3, 1) := by decide +kernel
theorem sX9_count_11 : ab_X rom K cX9_count 7 1 11 (v0 :: v1 :: v2 :: .int x :: ls) st hp = ab_X rom K cX9_count 7 1 12 (v0 :: v1 :: v2 :: .int x :: ls) (.int x :: st) hp := ax_iload_n dX9_count_11 rfl rfl
theorem dX9_count_12 : decode cX9_count 12 = .ok (.invokevirtual 64, 3) := by decide +kernel
theorem sX9_count_12_0 : ab_X rom K cX9_count 7 1 12 ls [w1, .ref a] hp = if ab_iso hp a 7 = true then (K 209 (.ref a :: [w1]) hp).bind (fun o => ab_X rom K cX9_count 7 1 15 ls (o.1.toList ++ []) o.2) else none := ay_virtual (as := [w1]) (st := []) dX9_count_12 kc_7_64 rfl rfl (Nat.le_of_ble_eq_true rfl)
theorem sX9_count_12_1 : ab_X rom K cX9_count 7 1 12 ls [w1, .ref a, v0] hp = if ab_iso hp a 7 = true then (K 209 (.ref a :: [w1]) hp).bind (fun o => ab_X rom K cX9_count 7 1 15 ls (o.1.toList ++ [v0]) o.2) else none := ay_virtual (as := [w1]) (st := [v0]) dX9_count_12 kc_7_64 rfl rfl (Nat.le_of_ble_eq_true rfl)
theorem sX9_count_12_2 : ab_X rom K cX9_count 7 1 12 ls [w1, .ref a, v0, v1] hp = if ab_iso hp a 7 = true then (K 209 (.ref a :: [w1]) hp).bind (fun o => ab_X rom K cX9_count 7 1 15 ls (o.1.toList ++ [v0, v1]) o.2) else none := ay_virtual (as := [w1]) (st := [v0, v1]) dX9_count_12 kc_7_64 rfl rfl (Nat.le_of_ble_eq_true rfl)
theorem sX9_count_12_3 : ab_X rom K cX9_count 7 1 12 ls [w1, .ref a, v0, v1, v2] hp = if ab_iso hp a 7 = true then (K 209 (.ref a :: [w1]) hp).bind (fun o => ab_X rom K cX9_count 7 1 15 ls (o.1.toList ++ [v0, v1, v2]) o.2) else none := ay_virtual (as := [w1]) (st := [v0, v1, v2]) dX9_count_12 kc_7_64 rfl rfl (Nat.le_of_ble_eq_true rfl)
theorem dX9_count_15 : decode cX9_count 15 = .ok (.ifCond .le 9, 3) := by decide +kernel
theorem sX9_count_15 : ab_X rom K cX9_count 7 1 15 ls (.int x :: st) hp = if 0 < x then ab_X rom K cX9_count 7 1 18 ls st hp else ab_X rom K cX9_count 7 1 24 ls st hp := ax_if_le dX9_count_15 (by decide) rfl
theorem dX9_count_18 : decode cX9_count 18 = .ok (.iconst 1, 1) := by decide +kernel
theorem sX9_count_18 : ab_X rom K cX9_count 7 1 18 ls st hp = ab_X rom K cX9_count 7 1 19 ls (.int 1 :: st) hp := ax_iconst dX9_count_18 (by decide) rfl
theorem dX9_count_19 : decode cX9_count 19 = .ok (.iload_n 3, 1) := by decide +kernel
theorem sX9_count_19 : ab_X rom K cX9_count 7 1 19 (v0 :: v1 :: v2 :: .int x :: ls) st hp = ab_X rom K cX9_count 7 1 20 (v0 :: v1 :: v2 :: .int x :: ls) (.int x :: st) hp := ax_iload_n dX9_count_19 rfl rfl
theorem dX9_count_20 : decode cX9_count 20 = .ok (.ishl, 1) := by decide +kernel
theorem sX9_count_20 : ab_X rom K cX9_count 7 1 20 ls (.int y :: .int x :: st) hp = ab_X rom K cX9_count 7 1 21 ls (.int (x <<< (y &&& 31)) :: st) hp := ax_ishl dX9_count_20 rfl
theorem dX9_count_21 : decode cX9_count 21 = .ok (.goto 4, 3) := by decide +kernel
theorem sX9_count_21 : ab_X rom K cX9_count 7 1 21 ls st hp = ab_X rom K cX9_count 7 1 25 ls st hp := ax_goto dX9_count_21 (by decide)
theorem dX9_count_24 : decode cX9_count 24 = .ok (.iconst 0, 1) := by decide +kernel
theorem sX9_count_24 : ab_X rom K cX9_count 7 1 24 ls st hp = ab_X rom K cX9_count 7 1 25 ls (.int 0 :: st) hp := ax_iconst dX9_count_24 (by decide) rfl
theorem dX9_count_25 : decode cX9_count 25 = .ok (.ior, 1) := by decide +kernel
theorem sX9_count_25 : ab_X rom K cX9_count 7 1 25 ls (.int y :: .int x :: st) hp = ab_X rom K cX9_count 7 1 26 ls (.int (x ||| y) :: st) hp := ax_ior dX9_count_25 rfl
theorem dX9_count_26 : decode cX9_count 26 = .ok (.istore_n 2, 1) := by decide +kernel
theorem sX9_count_26i : ab_X rom K cX9_count 7 1 26 (v0 :: .int y :: v2 :: ls) (.int x :: st) hp = ab_X rom K cX9_count 7 1 27 (v0 :: .int y :: .int x :: ls) st hp := ax_istore_n dX9_count_26 (ax_lt (v := v2) rfl) (ab_nl_c1 (j := 1) (v := .int y) rfl (ab_c1_int _)) rfl rfl
theorem sX9_count_26r : ab_X rom K cX9_count 7 1 26 (v0 :: .ref a2 :: v2 :: ls) (.int x :: st) hp = ab_X rom K cX9_count 7 1 27 (v0 :: .ref a2 :: .int x :: ls) st hp := ax_istore_n dX9_count_26 (ax_lt (v := v2) rfl) (ab_nl_c1 (j := 1) (v := .ref a2) rfl (ab_c1_ref _)) rfl rfl
theorem sX9_count_26n : ab_X rom K cX9_count 7 1 26 (v0 :: .null :: v2 :: ls) (.int x :: st) hp = ab_X rom K cX9_count 7 1 27 (v0 :: .null :: .int x :: ls) st hp := ax_istore_n dX9_count_26 (ax_lt (v := v2) rfl) (ab_nl_c1 (j := 1) (v := .null) rfl ab_c1_null) rfl rfl
theorem dX9_count_27 : decode cX9_count 27 = .ok (.iinc 3 1, 3) := by decide +kernel
theorem sX9_count_27i : ab_X rom K cX9_count 7 1 27 (v0 :: v1 :: .int y :: .int x :: ls) st hp = ab_X rom K cX9_count 7 1 30 (v0 :: v1 :: .int y :: .int (x + 1) :: ls) st hp := ax_iinc dX9_count_27 rfl (ab_nl_c1 (j := 2) (v := .int y) rfl (ab_c1_int _)) (by decide) rfl rfl
theorem sX9_count_27r : ab_X rom K cX9_count 7 1 27 (v0 :: v1 :: .ref a2 :: .int x :: ls) st hp = ab_X rom K cX9_count 7 1 30 (v0 :: v1 :: .ref a2 :: .int (x + 1) :: ls) st hp := ax_iinc dX9_count_27 rfl (ab_nl_c1 (j := 2) (v := .ref a2) rfl (ab_c1_ref _)) (by decide) rfl rfl
theorem sX9_count_27n : ab_X rom K cX9_count 7 1 27 (v0 :: v1 :: .null :: .int x :: ls) st hp = ab_X rom K cX9_count 7 1 30 (v0 :: v1 :: .null :: .int (x + 1) :: ls) st hp := ax_iinc dX9_count_27 rfl (ab_nl_c1 (j := 2) (v := .null) rfl ab_c1_null) (by decide) rfl rfl
theorem dX9_count_30 : decode cX9_count 30 = .ok (.goto (-26), 3) := by decide +kernel
theorem sX9_count_30 : ab_X rom K cX9_count 7 1 30 ls st hp = ab_X rom K cX9_count 7 1 4 ls st hp := ax_goto dX9_count_30 (by decide)
theorem dX9_count_33 : decode cX9_count 33 = .ok (.iload_n 1, 1) := by decide +kernel
theorem sX9_count_33 : ab_X rom K cX9_count 7 1 33 (v0 :: .int x :: ls) st hp = ab_X rom K cX9_count 7 1 34 (v0 :: .int x :: ls) (.int x :: st) hp := ax_iload_n dX9_count_33 rfl rfl
theorem dX9_count_34 : decode cX9_count 34 = .ok (.tableswitch 47 0 3 #[30, 32, 37, 42], 30) := by decide +kernel
theorem sX9_count_34_d (h : x.toInt < 0 ∨ 3 < x.toInt) : ab_X rom K cX9_count 7 1 34 ls (.int x :: st) hp = ab_X rom K cX9_count 7 1 81 ls st hp := ax_tsw_out dX9_count_34 (by decide) h
theorem sX9_count_34_0 : ab_X rom K cX9_count 7 1 34 ls (.int 0 :: st) hp = ab_X rom K cX9_count 7 1 64 ls st hp := ax_tsw_in (off := 30) dX9_count_34 (by decide) (by decide) (by decide)
theorem sX9_count_34_1 : ab_X rom K cX9_count 7 1 34 ls (.int 1 :: st) hp = ab_X rom K cX9_count 7 1 66 ls st hp := ax_tsw_in (off := 32) dX9_count_34 (by decide) (by decide) (by decide)
theorem sX9_count_34_2 : ab_X rom K cX9_count 7 1 34 ls (.int 2 :: st) hp = ab_X rom K cX9_count 7 1 71 ls st hp := ax_tsw_in (off := 37) dX9_count_34 (by decide) (by decide) (by decide)
theorem sX9_count_34_3 : ab_X rom K cX9_count 7 1 34 ls (.int 3 :: st) hp = ab_X rom K cX9_count 7 1 76 ls st hp := ax_tsw_in (off := 42) dX9_count_34 (by decide) (by decide) (by decide)
theorem dX9_count_64 : decode cX9_count 64 = .ok (.iload_n 2, 1) := by decide +kernel
theorem sX9_count_64 : ab_X rom K cX9_count 7 1 64 (v0 :: v1 :: .int x :: ls) st hp = ab_X rom K cX9_count 7 1 65 (v0 :: v1 :: .int x :: ls) (.int x :: st) hp := ax_iload_n dX9_count_64 rfl rfl
theorem dX9_count_65 : decode cX9_count 65 = .ok (.ireturn, 1) := by decide +kernel
theorem sX9_count_65 : ab_X rom K cX9_count 7 1 65 ls [.int x] hp = some (some (.int x), hp) := ax_iret dX9_count_65 rfl
theorem dX9_count_66 : decode cX9_count 66 = .ok (.aload_n 0, 1) := by decide +kernel
theorem sX9_count_66 : ab_X rom K cX9_count 7 1 66 (.ref a :: ls) st hp = ab_X rom K cX9_count 7 1 67 (.ref a :: ls) (.ref a :: st) hp := ax_aload_n dX9_count_66 rfl rfl
theorem dX9_count_67 : decode cX9_count 67 = .ok (.getfield 84, 3) := by decide +kernel
theorem sX9_count_67 : ab_X rom K cX9_count 7 1 67 ls (.ref a :: st) hp = (ab_fld hp a 7 3).bind (fun v => ab_X rom K cX9_count 7 1 70 ls (v :: st) hp) := ax_getfield dX9_count_67 kf_7_84 rfl
theorem dX9_count_70 : decode cX9_count 70 = .ok (.ireturn, 1) := by decide +kernel
theorem sX9_count_70 : ab_X rom K cX9_count 7 1 70 ls [.int x] hp = some (some (.int x), hp) := ax_iret dX9_count_70 rfl
theorem dX9_count_71 : decode cX9_count 71 = .ok (.aload_n 0, 1) := by decide +kernel
theorem sX9_count_71 : ab_X rom K cX9_count 7 1 71 (.ref a :: ls) st hp = ab_X rom K cX9_count 7 1 72 (.ref a :: ls) (.ref a :: st) hp := ax_aload_n dX9_count_71 rfl rfl
theorem dX9_count_72 : decode cX9_count 72 = .ok (.getfield 97, 3) := by decide +kernel
theorem sX9_count_72 : ab_X rom K cX9_count 7 1 72 ls (.ref a :: st) hp = (ab_fld hp a 7 5).bind (fun v => ab_X rom K cX9_count 7 1 75 ls (v :: st) hp) := ax_getfield dX9_count_72 kf_7_97 rfl
theorem dX9_count_75 : decode cX9_count 75 = .ok (.ireturn, 1) := by decide +kernel
theorem sX9_count_75 : ab_X rom K cX9_count 7 1 75 ls [.int x] hp = some (some (.int x), hp) := ax_iret dX9_count_75 rfl
theorem dX9_count_76 : decode cX9_count 76 = .ok (.aload_n 0, 1) := by decide +kernel
theorem sX9_count_76 : ab_X rom K cX9_count 7 1 76 (.ref a :: ls) st hp = ab_X rom K cX9_count 7 1 77 (.ref a :: ls) (.ref a :: st) hp := ax_aload_n dX9_count_76 rfl rfl
theorem dX9_count_77 : decode cX9_count 77 = .ok (.getfield 188, 3) := by decide +kernel
theorem sX9_count_77 : ab_X rom K cX9_count 7 1 77 ls (.ref a :: st) hp = (ab_fld hp a 7 28).bind (fun v => ab_X rom K cX9_count 7 1 80 ls (v :: st) hp) := ax_getfield dX9_count_77 kf_7_188 rfl
theorem dX9_count_80 : decode cX9_count 80 = .ok (.ireturn, 1) := by decide +kernel
theorem sX9_count_80 : ab_X rom K cX9_count 7 1 80 ls [.int x] hp = some (some (.int x), hp) := ax_iret dX9_count_80 rfl
theorem dX9_count_81 : decode cX9_count 81 = .ok (.iconst (-1), 1) := by decide +kernel
theorem sX9_count_81 : ab_X rom K cX9_count 7 1 81 ls st hp = ab_X rom K cX9_count 7 1 82 ls (.int (-1) :: st) hp := ax_iconst dX9_count_81 (by decide) rfl
theorem dX9_count_82 : decode cX9_count 82 = .ok (.ireturn, 1) := by decide +kernel
theorem sX9_count_82 : ab_X rom K cX9_count 7 1 82 ls [.int x] hp = some (some (.int x), hp) := ax_iret dX9_count_82 rfl
theorem tX9_cuts : ab_mT[142]? = some (yX9_cuts, cX9_cuts, 4, 1, 7) := by decide +kernel
theorem mX9_cuts {d : Nat} {a0 : Nat} {x0 : Int32} {x1 : Int32} {x2 : Int32} : ab_M rom (d + 1) 142 [.ref a0, .int x0, .int x1, .int x2] hp = ab_X rom (ab_M rom d) cX9_cuts 7 1 0 [.ref a0, .int x0, .int x1, .int x2] [] hp := ab_M_eq tX9_cuts (Nat.le_of_ble_eq_true rfl)
theorem dX9_cuts_0 : decode cX9_cuts 0 = .ok (.aload_n 0, 1) := by decide +kernel
theorem sX9_cuts_0 : ab_X rom K cX9_cuts 7 1 0 (.ref a :: ls) st hp = ab_X rom K cX9_cuts 7 1 1 (.ref a :: ls) (.ref a :: st) hp := ax_aload_n dX9_cuts_0 rfl rfl
theorem dX9_cuts_1 : decode cX9_cuts 1 = .ok (.iload_n 1, 1) := by decide +kernel
theorem sX9_cuts_1 : ab_X rom K cX9_cuts 7 1 1 (v0 :: .int x :: ls) st hp = ab_X rom K cX9_cuts 7 1 2 (v0 :: .int x :: ls) (.int x :: st) hp := ax_iload_n dX9_cuts_1 rfl rfl
theorem dX9_cuts_2 : decode cX9_cuts 2 = .ok (.iload_n 2, 1) := by decide +kernel
theorem sX9_cuts_2 : ab_X rom K cX9_cuts 7 1 2 (v0 :: v1 :: .int x :: ls) st hp = ab_X rom K cX9_cuts 7 1 3 (v0 :: v1 :: .int x :: ls) (.int x :: st) hp := ax_iload_n dX9_cuts_2 rfl rfl
theorem dX9_cuts_3 : decode cX9_cuts 3 = .ok (.invokevirtual 216, 3) := by decide +kernel
theorem sX9_cuts_3_0 : ab_X rom K cX9_cuts 7 1 3 ls [w2, w1, .ref a] hp = if ab_iso hp a 7 = true then (K 173 (.ref a :: [w1, w2]) hp).bind (fun o => ab_X rom K cX9_cuts 7 1 6 ls (o.1.toList ++ []) o.2) else none := ay_virtual (as := [w1, w2]) (st := []) dX9_cuts_3 kc_7_216 rfl rfl (Nat.le_of_ble_eq_true rfl)
theorem sX9_cuts_3_1 : ab_X rom K cX9_cuts 7 1 3 ls [w2, w1, .ref a, v0] hp = if ab_iso hp a 7 = true then (K 173 (.ref a :: [w1, w2]) hp).bind (fun o => ab_X rom K cX9_cuts 7 1 6 ls (o.1.toList ++ [v0]) o.2) else none := ay_virtual (as := [w1, w2]) (st := [v0]) dX9_cuts_3 kc_7_216 rfl rfl (Nat.le_of_ble_eq_true rfl)
theorem sX9_cuts_3_2 : ab_X rom K cX9_cuts 7 1 3 ls [w2, w1, .ref a, v0, v1] hp = if ab_iso hp a 7 = true then (K 173 (.ref a :: [w1, w2]) hp).bind (fun o => ab_X rom K cX9_cuts 7 1 6 ls (o.1.toList ++ [v0, v1]) o.2) else none := ay_virtual (as := [w1, w2]) (st := [v0, v1]) dX9_cuts_3 kc_7_216 rfl rfl (Nat.le_of_ble_eq_true rfl)
theorem sX9_cuts_3_3 : ab_X rom K cX9_cuts 7 1 3 ls [w2, w1, .ref a, v0, v1, v2] hp = if ab_iso hp a 7 = true then (K 173 (.ref a :: [w1, w2]) hp).bind (fun o => ab_X rom K cX9_cuts 7 1 6 ls (o.1.toList ++ [v0, v1, v2]) o.2) else none := ay_virtual (as := [w1, w2]) (st := [v0, v1, v2]) dX9_cuts_3 kc_7_216 rfl rfl (Nat.le_of_ble_eq_true rfl)
theorem dX9_cuts_6 : decode cX9_cuts 6 = .ok (.ifCond .eq 17, 3) := by decide +kernel
theorem sX9_cuts_6 : ab_X rom K cX9_cuts 7 1 6 ls (.int x :: st) hp = if x = 0 then ab_X rom K cX9_cuts 7 1 23 ls st hp else ab_X rom K cX9_cuts 7 1 9 ls st hp := ax_if_eq dX9_cuts_6 (by decide) rfl
theorem dX9_cuts_9 : decode cX9_cuts 9 = .ok (.aload_n 0, 1) := by decide +kernel
theorem sX9_cuts_9 : ab_X rom K cX9_cuts 7 1 9 (.ref a :: ls) st hp = ab_X rom K cX9_cuts 7 1 10 (.ref a :: ls) (.ref a :: st) hp := ax_aload_n dX9_cuts_9 rfl rfl
theorem dX9_cuts_10 : decode cX9_cuts 10 = .ok (.iload_n 1, 1) := by decide +kernel
theorem sX9_cuts_10 : ab_X rom K cX9_cuts 7 1 10 (v0 :: .int x :: ls) st hp = ab_X rom K cX9_cuts 7 1 11 (v0 :: .int x :: ls) (.int x :: st) hp := ax_iload_n dX9_cuts_10 rfl rfl
theorem dX9_cuts_11 : decode cX9_cuts 11 = .ok (.iload_n 3, 1) := by decide +kernel
theorem sX9_cuts_11 : ab_X rom K cX9_cuts 7 1 11 (v0 :: v1 :: v2 :: .int x :: ls) st hp = ab_X rom K cX9_cuts 7 1 12 (v0 :: v1 :: v2 :: .int x :: ls) (.int x :: st) hp := ax_iload_n dX9_cuts_11 rfl rfl
theorem dX9_cuts_12 : decode cX9_cuts 12 = .ok (.invokevirtual 216, 3) := by decide +kernel
theorem sX9_cuts_12_0 : ab_X rom K cX9_cuts 7 1 12 ls [w2, w1, .ref a] hp = if ab_iso hp a 7 = true then (K 173 (.ref a :: [w1, w2]) hp).bind (fun o => ab_X rom K cX9_cuts 7 1 15 ls (o.1.toList ++ []) o.2) else none := ay_virtual (as := [w1, w2]) (st := []) dX9_cuts_12 kc_7_216 rfl rfl (Nat.le_of_ble_eq_true rfl)
theorem sX9_cuts_12_1 : ab_X rom K cX9_cuts 7 1 12 ls [w2, w1, .ref a, v0] hp = if ab_iso hp a 7 = true then (K 173 (.ref a :: [w1, w2]) hp).bind (fun o => ab_X rom K cX9_cuts 7 1 15 ls (o.1.toList ++ [v0]) o.2) else none := ay_virtual (as := [w1, w2]) (st := [v0]) dX9_cuts_12 kc_7_216 rfl rfl (Nat.le_of_ble_eq_true rfl)
theorem sX9_cuts_12_2 : ab_X rom K cX9_cuts 7 1 12 ls [w2, w1, .ref a, v0, v1] hp = if ab_iso hp a 7 = true then (K 173 (.ref a :: [w1, w2]) hp).bind (fun o => ab_X rom K cX9_cuts 7 1 15 ls (o.1.toList ++ [v0, v1]) o.2) else none := ay_virtual (as := [w1, w2]) (st := [v0, v1]) dX9_cuts_12 kc_7_216 rfl rfl (Nat.le_of_ble_eq_true rfl)
theorem sX9_cuts_12_3 : ab_X rom K cX9_cuts 7 1 12 ls [w2, w1, .ref a, v0, v1, v2] hp = if ab_iso hp a 7 = true then (K 173 (.ref a :: [w1, w2]) hp).bind (fun o => ab_X rom K cX9_cuts 7 1 15 ls (o.1.toList ++ [v0, v1, v2]) o.2) else none := ay_virtual (as := [w1, w2]) (st := [v0, v1, v2]) dX9_cuts_12 kc_7_216 rfl rfl (Nat.le_of_ble_eq_true rfl)
theorem dX9_cuts_15 : decode cX9_cuts 15 = .ok (.ifCond .eq 8, 3) := by decide +kernel
theorem sX9_cuts_15 : ab_X rom K cX9_cuts 7 1 15 ls (.int x :: st) hp = if x = 0 then ab_X rom K cX9_cuts 7 1 23 ls st hp else ab_X rom K cX9_cuts 7 1 18 ls st hp := ax_if_eq dX9_cuts_15 (by decide) rfl
theorem dX9_cuts_18 : decode cX9_cuts 18 = .ok (.iload_n 2, 1) := by decide +kernel
theorem sX9_cuts_18 : ab_X rom K cX9_cuts 7 1 18 (v0 :: v1 :: .int x :: ls) st hp = ab_X rom K cX9_cuts 7 1 19 (v0 :: v1 :: .int x :: ls) (.int x :: st) hp := ax_iload_n dX9_cuts_18 rfl rfl
theorem dX9_cuts_19 : decode cX9_cuts 19 = .ok (.iload_n 3, 1) := by decide +kernel
theorem sX9_cuts_19 : ab_X rom K cX9_cuts 7 1 19 (v0 :: v1 :: v2 :: .int x :: ls) st hp = ab_X rom K cX9_cuts 7 1 20 (v0 :: v1 :: v2 :: .int x :: ls) (.int x :: st) hp := ax_iload_n dX9_cuts_19 rfl rfl
theorem dX9_cuts_20 : decode cX9_cuts 20 = .ok (.if_icmp .ne 6, 3) := by decide +kernel
theorem sX9_cuts_20 : ab_X rom K cX9_cuts 7 1 20 ls (.int y :: .int x :: st) hp = if x = y then ab_X rom K cX9_cuts 7 1 23 ls st hp else ab_X rom K cX9_cuts 7 1 26 ls st hp := ax_icmp_ne dX9_cuts_20 (by decide) rfl
theorem dX9_cuts_23 : decode cX9_cuts 23 = .ok (.bipush (-2), 2) := by decide +kernel
theorem sX9_cuts_23 : ab_X rom K cX9_cuts 7 1 23 ls st hp = ab_X rom K cX9_cuts 7 1 25 ls (.int (-2) :: st) hp := ax_bipush dX9_cuts_23 (by decide) rfl
theorem dX9_cuts_25 : decode cX9_cuts 25 = .ok (.ireturn, 1) := by decide +kernel
theorem sX9_cuts_25 : ab_X rom K cX9_cuts 7 1 25 ls [.int x] hp = some (some (.int x), hp) := ax_iret dX9_cuts_25 rfl
theorem dX9_cuts_26 : decode cX9_cuts 26 = .ok (.aload_n 0, 1) := by decide +kernel
theorem sX9_cuts_26 : ab_X rom K cX9_cuts 7 1 26 (.ref a :: ls) st hp = ab_X rom K cX9_cuts 7 1 27 (.ref a :: ls) (.ref a :: st) hp := ax_aload_n dX9_cuts_26 rfl rfl
theorem dX9_cuts_27 : decode cX9_cuts 27 = .ok (.iload_n 1, 1) := by decide +kernel
theorem sX9_cuts_27 : ab_X rom K cX9_cuts 7 1 27 (v0 :: .int x :: ls) st hp = ab_X rom K cX9_cuts 7 1 28 (v0 :: .int x :: ls) (.int x :: st) hp := ax_iload_n dX9_cuts_27 rfl rfl
theorem dX9_cuts_28 : decode cX9_cuts 28 = .ok (.iload_n 2, 1) := by decide +kernel
theorem sX9_cuts_28 : ab_X rom K cX9_cuts 7 1 28 (v0 :: v1 :: .int x :: ls) st hp = ab_X rom K cX9_cuts 7 1 29 (v0 :: v1 :: .int x :: ls) (.int x :: st) hp := ax_iload_n dX9_cuts_28 rfl rfl
theorem dX9_cuts_29 : decode cX9_cuts 29 = .ok (.iload_n 3, 1) := by decide +kernel
theorem sX9_cuts_29 : ab_X rom K cX9_cuts 7 1 29 (v0 :: v1 :: v2 :: .int x :: ls) st hp = ab_X rom K cX9_cuts 7 1 30 (v0 :: v1 :: v2 :: .int x :: ls) (.int x :: st) hp := ax_iload_n dX9_cuts_29 rfl rfl
theorem dX9_cuts_30 : decode cX9_cuts 30 = .ok (.invokevirtual 160, 3) := by decide +kernel
theorem sX9_cuts_30_0 : ab_X rom K cX9_cuts 7 1 30 ls [w3, w2, w1, .ref a] hp = if ab_iso hp a 7 = true then (K 135 (.ref a :: [w1, w2, w3]) hp).bind (fun o => ab_X rom K cX9_cuts 7 1 33 ls (o.1.toList ++ []) o.2) else none := ay_virtual (as := [w1, w2, w3]) (st := []) dX9_cuts_30 kc_7_160 rfl rfl (Nat.le_of_ble_eq_true rfl)
theorem sX9_cuts_30_1 : ab_X rom K cX9_cuts 7 1 30 ls [w3, w2, w1, .ref a, v0] hp = if ab_iso hp a 7 = true then (K 135 (.ref a :: [w1, w2, w3]) hp).bind (fun o => ab_X rom K cX9_cuts 7 1 33 ls (o.1.toList ++ [v0]) o.2) else none := ay_virtual (as := [w1, w2, w3]) (st := [v0]) dX9_cuts_30 kc_7_160 rfl rfl (Nat.le_of_ble_eq_true rfl)
theorem sX9_cuts_30_2 : ab_X rom K cX9_cuts 7 1 30 ls [w3, w2, w1, .ref a, v0, v1] hp = if ab_iso hp a 7 = true then (K 135 (.ref a :: [w1, w2, w3]) hp).bind (fun o => ab_X rom K cX9_cuts 7 1 33 ls (o.1.toList ++ [v0, v1]) o.2) else none := ay_virtual (as := [w1, w2, w3]) (st := [v0, v1]) dX9_cuts_30 kc_7_160 rfl rfl (Nat.le_of_ble_eq_true rfl)
theorem sX9_cuts_30_3 : ab_X rom K cX9_cuts 7 1 30 ls [w3, w2, w1, .ref a, v0, v1, v2] hp = if ab_iso hp a 7 = true then (K 135 (.ref a :: [w1, w2, w3]) hp).bind (fun o => ab_X rom K cX9_cuts 7 1 33 ls (o.1.toList ++ [v0, v1, v2]) o.2) else none := ay_virtual (as := [w1, w2, w3]) (st := [v0, v1, v2]) dX9_cuts_30 kc_7_160 rfl rfl (Nat.le_of_ble_eq_true rfl)
theorem dX9_cuts_33 : decode cX9_cuts 33 = .ok (.ifCond .ne 6, 3) := by decide +kernel
theorem sX9_cuts_33 : ab_X rom K cX9_cuts 7 1 33 ls (.int x :: st) hp = if x = 0 then ab_X rom K cX9_cuts 7 1 36 ls st hp else ab_X rom K cX9_cuts 7 1 39 ls st hp := ax_if_ne dX9_cuts_33 (by decide) rfl
theorem dX9_cuts_36 : decode cX9_cuts 36 = .ok (.bipush (-6), 2) := by decide +kernel
theorem sX9_cuts_36 : ab_X rom K cX9_cuts 7 1 36 ls st hp = ab_X rom K cX9_cuts 7 1 38 ls (.int (-6) :: st) hp := ax_bipush dX9_cuts_36 (by decide) rfl
theorem dX9_cuts_38 : decode cX9_cuts 38 = .ok (.ireturn, 1) := by decide +kernel
theorem sX9_cuts_38 : ab_X rom K cX9_cuts 7 1 38 ls [.int x] hp = some (some (.int x), hp) := ax_iret dX9_cuts_38 rfl
theorem dX9_cuts_39 : decode cX9_cuts 39 = .ok (.aload_n 0, 1) := by decide +kernel
theorem sX9_cuts_39 : ab_X rom K cX9_cuts 7 1 39 (.ref a :: ls) st hp = ab_X rom K cX9_cuts 7 1 40 (.ref a :: ls) (.ref a :: st) hp := ax_aload_n dX9_cuts_39 rfl rfl
theorem dX9_cuts_40 : decode cX9_cuts 40 = .ok (.invokevirtual 87, 3) := by decide +kernel
theorem sX9_cuts_40_0 : ab_X rom K cX9_cuts 7 1 40 ls [.ref a] hp = if ab_iso hp a 7 = true then (K 214 (.ref a :: []) hp).bind (fun o => ab_X rom K cX9_cuts 7 1 43 ls (o.1.toList ++ []) o.2) else none := ay_virtual (as := []) (st := []) dX9_cuts_40 kc_7_87 rfl rfl (Nat.le_of_ble_eq_true rfl)
theorem sX9_cuts_40_1 : ab_X rom K cX9_cuts 7 1 40 ls [.ref a, v0] hp = if ab_iso hp a 7 = true then (K 214 (.ref a :: []) hp).bind (fun o => ab_X rom K cX9_cuts 7 1 43 ls (o.1.toList ++ [v0]) o.2) else none := ay_virtual (as := []) (st := [v0]) dX9_cuts_40 kc_7_87 rfl rfl (Nat.le_of_ble_eq_true rfl)
theorem sX9_cuts_40_2 : ab_X rom K cX9_cuts 7 1 40 ls [.ref a, v0, v1] hp = if ab_iso hp a 7 = true then (K 214 (.ref a :: []) hp).bind (fun o => ab_X rom K cX9_cuts 7 1 43 ls (o.1.toList ++ [v0, v1]) o.2) else none := ay_virtual (as := []) (st := [v0, v1]) dX9_cuts_40 kc_7_87 rfl rfl (Nat.le_of_ble_eq_true rfl)
theorem sX9_cuts_40_3 : ab_X rom K cX9_cuts 7 1 40 ls [.ref a, v0, v1, v2] hp = if ab_iso hp a 7 = true then (K 214 (.ref a :: []) hp).bind (fun o => ab_X rom K cX9_cuts 7 1 43 ls (o.1.toList ++ [v0, v1, v2]) o.2) else none := ay_virtual (as := []) (st := [v0, v1, v2]) dX9_cuts_40 kc_7_87 rfl rfl (Nat.le_of_ble_eq_true rfl)
theorem dX9_cuts_43 : decode cX9_cuts 43 = .ok (.aload_n 0, 1) := by decide +kernel
theorem sX9_cuts_43 : ab_X rom K cX9_cuts 7 1 43 (.ref a :: ls) st hp = ab_X rom K cX9_cuts 7 1 44 (.ref a :: ls) (.ref a :: st) hp := ax_aload_n dX9_cuts_43 rfl rfl
theorem dX9_cuts_44 : decode cX9_cuts 44 = .ok (.iload_n 1, 1) := by decide +kernel
theorem sX9_cuts_44 : ab_X rom K cX9_cuts 7 1 44 (v0 :: .int x :: ls) st hp = ab_X rom K cX9_cuts 7 1 45 (v0 :: .int x :: ls) (.int x :: st) hp := ax_iload_n dX9_cuts_44 rfl rfl
theorem dX9_cuts_45 : decode cX9_cuts 45 = .ok (.iload_n 2, 1) := by decide +kernel
theorem sX9_cuts_45 : ab_X rom K cX9_cuts 7 1 45 (v0 :: v1 :: .int x :: ls) st hp = ab_X rom K cX9_cuts 7 1 46 (v0 :: v1 :: .int x :: ls) (.int x :: st) hp := ax_iload_n dX9_cuts_45 rfl rfl
theorem dX9_cuts_46 : decode cX9_cuts 46 = .ok (.iload_n 3, 1) := by decide +kernel
theorem sX9_cuts_46 : ab_X rom K cX9_cuts 7 1 46 (v0 :: v1 :: v2 :: .int x :: ls) st hp = ab_X rom K cX9_cuts 7 1 47 (v0 :: v1 :: v2 :: .int x :: ls) (.int x :: st) hp := ax_iload_n dX9_cuts_46 rfl rfl
theorem dX9_cuts_47 : decode cX9_cuts 47 = .ok (.invokevirtual 164, 3) := by decide +kernel
theorem sX9_cuts_47_0 : ab_X rom K cX9_cuts 7 1 47 ls [w3, w2, w1, .ref a] hp = if ab_iso hp a 7 = true then (K 180 (.ref a :: [w1, w2, w3]) hp).bind (fun o => ab_X rom K cX9_cuts 7 1 50 ls (o.1.toList ++ []) o.2) else none := ay_virtual (as := [w1, w2, w3]) (st := []) dX9_cuts_47 kc_7_164 rfl rfl (Nat.le_of_ble_eq_true rfl)
theorem sX9_cuts_47_1 : ab_X rom K cX9_cuts 7 1 47 ls [w3, w2, w1, .ref a, v0] hp = if ab_iso hp a 7 = true then (K 180 (.ref a :: [w1, w2, w3]) hp).bind (fun o => ab_X rom K cX9_cuts 7 1 50 ls (o.1.toList ++ [v0]) o.2) else none := ay_virtual (as := [w1, w2, w3]) (st := [v0]) dX9_cuts_47 kc_7_164 rfl rfl (Nat.le_of_ble_eq_true rfl)
theorem sX9_cuts_47_2 : ab_X rom K cX9_cuts 7 1 47 ls [w3, w2, w1, .ref a, v0, v1] hp = if ab_iso hp a 7 = true then (K 180 (.ref a :: [w1, w2, w3]) hp).bind (fun o => ab_X rom K cX9_cuts 7 1 50 ls (o.1.toList ++ [v0, v1]) o.2) else none := ay_virtual (as := [w1, w2, w3]) (st := [v0, v1]) dX9_cuts_47 kc_7_164 rfl rfl (Nat.le_of_ble_eq_true rfl)
theorem sX9_cuts_47_3 : ab_X rom K cX9_cuts 7 1 47 ls [w3, w2, w1, .ref a, v0, v1, v2] hp = if ab_iso hp a 7 = true then (K 180 (.ref a :: [w1, w2, w3]) hp).bind (fun o => ab_X rom K cX9_cuts 7 1 50 ls (o.1.toList ++ [v0, v1, v2]) o.2) else none := ay_virtual (as := [w1, w2, w3]) (st := [v0, v1, v2]) dX9_cuts_47 kc_7_164 rfl rfl (Nat.le_of_ble_eq_true rfl)
theorem dX9_cuts_50 : decode cX9_cuts 50 = .ok (.aload_n 0, 1) := by decide +kernel
theorem sX9_cuts_50 : ab_X rom K cX9_cuts 7 1 50 (.ref a :: ls) st hp = ab_X rom K cX9_cuts 7 1 51 (.ref a :: ls) (.ref a :: st) hp := ax_aload_n dX9_cuts_50 rfl rfl
theorem dX9_cuts_51 : decode cX9_cuts 51 = .ok (.aload_n 0, 1) := by decide +kernel
theorem sX9_cuts_51 : ab_X rom K cX9_cuts 7 1 51 (.ref a :: ls) st hp = ab_X rom K cX9_cuts 7 1 52 (.ref a :: ls) (.ref a :: st) hp := ax_aload_n dX9_cuts_51 rfl rfl
theorem dX9_cuts_52 : decode cX9_cuts 52 = .ok (.iload_n 1, 1) := by decide +kernel
theorem sX9_cuts_52 : ab_X rom K cX9_cuts 7 1 52 (v0 :: .int x :: ls) st hp = ab_X rom K cX9_cuts 7 1 53 (v0 :: .int x :: ls) (.int x :: st) hp := ax_iload_n dX9_cuts_52 rfl rfl
theorem dX9_cuts_53 : decode cX9_cuts 53 = .ok (.invokevirtual 150, 3) := by decide +kernel
theorem sX9_cuts_53_0 : ab_X rom K cX9_cuts 7 1 53 ls [w1, .ref a] hp = if ab_iso hp a 7 = true then (K 188 (.ref a :: [w1]) hp).bind (fun o => ab_X rom K cX9_cuts 7 1 56 ls (o.1.toList ++ []) o.2) else none := ay_virtual (as := [w1]) (st := []) dX9_cuts_53 kc_7_150 rfl rfl (Nat.le_of_ble_eq_true rfl)
theorem sX9_cuts_53_1 : ab_X rom K cX9_cuts 7 1 53 ls [w1, .ref a, v0] hp = if ab_iso hp a 7 = true then (K 188 (.ref a :: [w1]) hp).bind (fun o => ab_X rom K cX9_cuts 7 1 56 ls (o.1.toList ++ [v0]) o.2) else none := ay_virtual (as := [w1]) (st := [v0]) dX9_cuts_53 kc_7_150 rfl rfl (Nat.le_of_ble_eq_true rfl)
theorem sX9_cuts_53_2 : ab_X rom K cX9_cuts 7 1 53 ls [w1, .ref a, v0, v1] hp = if ab_iso hp a 7 = true then (K 188 (.ref a :: [w1]) hp).bind (fun o => ab_X rom K cX9_cuts 7 1 56 ls (o.1.toList ++ [v0, v1]) o.2) else none := ay_virtual (as := [w1]) (st := [v0, v1]) dX9_cuts_53 kc_7_150 rfl rfl (Nat.le_of_ble_eq_true rfl)
theorem sX9_cuts_53_3 : ab_X rom K cX9_cuts 7 1 53 ls [w1, .ref a, v0, v1, v2] hp = if ab_iso hp a 7 = true then (K 188 (.ref a :: [w1]) hp).bind (fun o => ab_X rom K cX9_cuts 7 1 56 ls (o.1.toList ++ [v0, v1, v2]) o.2) else none := ay_virtual (as := [w1]) (st := [v0, v1, v2]) dX9_cuts_53 kc_7_150 rfl rfl (Nat.le_of_ble_eq_true rfl)
theorem dX9_cuts_56 : decode cX9_cuts 56 = .ok (.invokevirtual 94, 3) := by decide +kernel
theorem sX9_cuts_56_0 : ab_X rom K cX9_cuts 7 1 56 ls [w1, .ref a] hp = if ab_iso hp a 7 = true then (K 144 (.ref a :: [w1]) hp).bind (fun o => ab_X rom K cX9_cuts 7 1 59 ls (o.1.toList ++ []) o.2) else none := ay_virtual (as := [w1]) (st := []) dX9_cuts_56 kc_7_94 rfl rfl (Nat.le_of_ble_eq_true rfl)
theorem sX9_cuts_56_1 : ab_X rom K cX9_cuts 7 1 56 ls [w1, .ref a, v0] hp = if ab_iso hp a 7 = true then (K 144 (.ref a :: [w1]) hp).bind (fun o => ab_X rom K cX9_cuts 7 1 59 ls (o.1.toList ++ [v0]) o.2) else none := ay_virtual (as := [w1]) (st := [v0]) dX9_cuts_56 kc_7_94 rfl rfl (Nat.le_of_ble_eq_true rfl)
theorem sX9_cuts_56_2 : ab_X rom K cX9_cuts 7 1 56 ls [w1, .ref a, v0, v1] hp = if ab_iso hp a 7 = true then (K 144 (.ref a :: [w1]) hp).bind (fun o => ab_X rom K cX9_cuts 7 1 59 ls (o.1.toList ++ [v0, v1]) o.2) else none := ay_virtual (as := [w1]) (st := [v0, v1]) dX9_cuts_56 kc_7_94 rfl rfl (Nat.le_of_ble_eq_true rfl)
theorem sX9_cuts_56_3 : ab_X rom K cX9_cuts 7 1 56 ls [w1, .ref a, v0, v1, v2] hp = if ab_iso hp a 7 = true then (K 144 (.ref a :: [w1]) hp).bind (fun o => ab_X rom K cX9_cuts 7 1 59 ls (o.1.toList ++ [v0, v1, v2]) o.2) else none := ay_virtual (as := [w1]) (st := [v0, v1, v2]) dX9_cuts_56 kc_7_94 rfl rfl (Nat.le_of_ble_eq_true rfl)
theorem dX9_cuts_59 : decode cX9_cuts 59 = .ok (.ireturn, 1) := by decide +kernel
theorem sX9_cuts_59 : ab_X rom K cX9_cuts 7 1 59 ls [.int x] hp = some (some (.int x), hp) := ax_iret dX9_cuts_59 rfl
theorem tX9_degree : ab_mT[143]? = some (yX9_degree, cX9_degree, 6, 1, 7) := by decide +kernel
theorem mX9_degree {d : Nat} {a0 : Nat} {x0 : Int32} {x1 : Int32} : ab_M rom (d + 1) 143 [.ref a0, .int x0, .int x1] hp = ab_X rom (ab_M rom d) cX9_degree 7 1 0 [.ref a0, .int x0, .int x1, .null, .null, .null] [] hp := ab_M_eq tX9_degree (Nat.le_of_ble_eq_true rfl)
theorem dX9_degree_0 : decode cX9_degree 0 = .ok (.aload_n 0, 1) := by decide +kernel
theorem sX9_degree_0 : ab_X rom K cX9_degree 7 1 0 (.ref a :: ls) st hp = ab_X rom K cX9_degree 7 1 1 (.ref a :: ls) (.ref a :: st) hp := ax_aload_n dX9_degree_0 rfl rfl
theorem dX9_degree_1 : decode cX9_degree 1 = .ok (.iload_n 1, 1) := by decide +kernel
theorem sX9_degree_1 : ab_X rom K cX9_degree 7 1 1 (v0 :: .int x :: ls) st hp = ab_X rom K cX9_degree 7 1 2 (v0 :: .int x :: ls) (.int x :: st) hp := ax_iload_n dX9_degree_1 rfl rfl
theorem dX9_degree_2 : decode cX9_degree 2 = .ok (.iconst 0, 1) := by decide +kernel
theorem sX9_degree_2 : ab_X rom K cX9_degree 7 1 2 ls st hp = ab_X rom K cX9_degree 7 1 3 ls (.int 0 :: st) hp := ax_iconst dX9_degree_2 (by decide) rfl
theorem dX9_degree_3 : decode cX9_degree 3 = .ok (.invokevirtual 73, 3) := by decide +kernel
theorem sX9_degree_3_0 : ab_X rom K cX9_degree 7 1 3 ls [w2, w1, .ref a] hp = if ab_iso hp a 7 = true then (K 179 (.ref a :: [w1, w2]) hp).bind (fun o => ab_X rom K cX9_degree 7 1 6 ls (o.1.toList ++ []) o.2) else none := ay_virtual (as := [w1, w2]) (st := []) dX9_degree_3 kc_7_73 rfl rfl (Nat.le_of_ble_eq_true rfl)
theorem sX9_degree_3_1 : ab_X rom K cX9_degree 7 1 3 ls [w2, w1, .ref a, v0] hp = if ab_iso hp a 7 = true then (K 179 (.ref a :: [w1, w2]) hp).bind (fun o => ab_X rom K cX9_degree 7 1 6 ls (o.1.toList ++ [v0]) o.2) else none := ay_virtual (as := [w1, w2]) (st := [v0]) dX9_degree_3 kc_7_73 rfl rfl (Nat.le_of_ble_eq_true rfl)
theorem sX9_degree_3_2 : ab_X rom K cX9_degree 7 1 3 ls [w2, w1, .ref a, v0, v1] hp = if ab_iso hp a 7 = true then (K 179 (.ref a :: [w1, w2]) hp).bind (fun o => ab_X rom K cX9_degree 7 1 6 ls (o.1.toList ++ [v0, v1]) o.2) else none := ay_virtual (as := [w1, w2]) (st := [v0, v1]) dX9_degree_3 kc_7_73 rfl rfl (Nat.le_of_ble_eq_true rfl)
theorem sX9_degree_3_3 : ab_X rom K cX9_degree 7 1 3 ls [w2, w1, .ref a, v0, v1, v2] hp = if ab_iso hp a 7 = true then (K 179 (.ref a :: [w1, w2]) hp).bind (fun o => ab_X rom K cX9_degree 7 1 6 ls (o.1.toList ++ [v0, v1, v2]) o.2) else none := ay_virtual (as := [w1, w2]) (st := [v0, v1, v2]) dX9_degree_3 kc_7_73 rfl rfl (Nat.le_of_ble_eq_true rfl)
theorem dX9_degree_6 : decode cX9_degree 6 = .ok (.invokestatic 81, 3) := by decide +kernel
theorem sX9_degree_6_0 : ab_X rom K cX9_degree 7 1 6 ls [w1] hp = (K 204 [w1] hp).bind (fun o => ab_X rom K cX9_degree 7 1 9 ls (o.1.toList ++ []) o.2) := ax_static (as := [w1]) (st := []) dX9_degree_6 kc_7_81 rfl rfl (Nat.le_of_ble_eq_true rfl)
theorem sX9_degree_6_1 : ab_X rom K cX9_degree 7 1 6 ls [w1, v0] hp = (K 204 [w1] hp).bind (fun o => ab_X rom K cX9_degree 7 1 9 ls (o.1.toList ++ [v0]) o.2) := ax_static (as := [w1]) (st := [v0]) dX9_degree_6 kc_7_81 rfl rfl (Nat.le_of_ble_eq_true rfl)
theorem sX9_degree_6_2 : ab_X rom K cX9_degree 7 1 6 ls [w1, v0, v1] hp = (K 204 [w1] hp).bind (fun o => ab_X rom K cX9_degree 7 1 9 ls (o.1.toList ++ [v0, v1]) o.2) := ax_static (as := [w1]) (st := [v0, v1]) dX9_degree_6 kc_7_81 rfl rfl (Nat.le_of_ble_eq_true rfl)
theorem sX9_degree_6_3 : ab_X rom K cX9_degree 7 1 6 ls [w1, v0, v1, v2] hp = (K 204 [w1] hp).bind (fun o => ab_X rom K cX9_degree 7 1 9 ls (o.1.toList ++ [v0, v1, v2]) o.2) := ax_static (as := [w1]) (st := [v0, v1, v2]) dX9_degree_6 kc_7_81 rfl rfl (Nat.le_of_ble_eq_true rfl)
theorem dX9_degree_9 : decode cX9_degree 9 = .ok (.istore_n 3, 1) := by decide +kernel
theorem sX9_degree_9i : ab_X rom K cX9_degree 7 1 9 (v0 :: v1 :: .int y :: v3 :: ls) (.int x :: st) hp = ab_X rom K cX9_degree 7 1 10 (v0 :: v1 :: .int y :: .int x :: ls) st hp := ax_istore_n dX9_degree_9 (ax_lt (v := v3) rfl) (ab_nl_c1 (j := 2) (v := .int y) rfl (ab_c1_int _)) rfl rfl
theorem sX9_degree_9r : ab_X rom K cX9_degree 7 1 9 (v0 :: v1 :: .ref a2 :: v3 :: ls) (.int x :: st) hp = ab_X rom K cX9_degree 7 1 10 (v0 :: v1 :: .ref a2 :: .int x :: ls) st hp := ax_istore_n dX9_degree_9 (ax_lt (v := v3) rfl) (ab_nl_c1 (j := 2) (v := .ref a2) rfl (ab_c1_ref _)) rfl rfl
theorem sX9_degree_9n : ab_X rom K cX9_degree 7 1 9 (v0 :: v1 :: .null :: v3 :: ls) (.int x :: st) hp = ab_X rom K cX9_degree 7 1 10 (v0 :: v1 :: .null :: .int x :: ls) st hp := ax_istore_n dX9_degree_9 (ax_lt (v := v3) rfl) (ab_nl_c1 (j := 2) (v := .null) rfl ab_c1_null) rfl rfl
theorem dX9_degree_10 : decode cX9_degree 10 = .ok (.iconst 1, 1) := by decide +kernel
theorem sX9_degree_10 : ab_X rom K cX9_degree 7 1 10 ls st hp = ab_X rom K cX9_degree 7 1 11 ls (.int 1 :: st) hp := ax_iconst dX9_degree_10 (by decide) rfl
theorem dX9_degree_11 : decode cX9_degree 11 = .ok (.istore 4, 2) := by decide +kernel
theorem sX9_degree_11i : ab_X rom K cX9_degree 7 1 11 (v0 :: v1 :: v2 :: .int y :: v4 :: ls) (.int x :: st) hp = ab_X rom K cX9_degree 7 1 13 (v0 :: v1 :: v2 :: .int y :: .int x :: ls) st hp := ax_istore dX9_degree_11 (ax_lt (v := v4) rfl) (ab_nl_c1 (j := 3) (v := .int y) rfl (ab_c1_int _)) rfl rfl
theorem sX9_degree_11r : ab_X rom K cX9_degree 7 1 11 (v0 :: v1 :: v2 :: .ref a2 :: v4 :: ls) (.int x :: st) hp = ab_X rom K cX9_degree 7 1 13 (v0 :: v1 :: v2 :: .ref a2 :: .int x :: ls) st hp := ax_istore dX9_degree_11 (ax_lt (v := v4) rfl) (ab_nl_c1 (j := 3) (v := .ref a2) rfl (ab_c1_ref _)) rfl rfl
theorem sX9_degree_11n : ab_X rom K cX9_degree 7 1 11 (v0 :: v1 :: v2 :: .null :: v4 :: ls) (.int x :: st) hp = ab_X rom K cX9_degree 7 1 13 (v0 :: v1 :: v2 :: .null :: .int x :: ls) st hp := ax_istore dX9_degree_11 (ax_lt (v := v4) rfl) (ab_nl_c1 (j := 3) (v := .null) rfl ab_c1_null) rfl rfl
theorem dX9_degree_13 : decode cX9_degree 13 = .ok (.iload 4, 2) := by decide +kernel
theorem sX9_degree_13 : ab_X rom K cX9_degree 7 1 13 (v0 :: v1 :: v2 :: v3 :: .int x :: ls) st hp = ab_X rom K cX9_degree 7 1 15 (v0 :: v1 :: v2 :: v3 :: .int x :: ls) (.int x :: st) hp := ax_iload dX9_degree_13 rfl rfl
theorem dX9_degree_15 : decode cX9_degree 15 = .ok (.aload_n 0, 1) := by decide +kernel
theorem sX9_degree_15 : ab_X rom K cX9_degree 7 1 15 (.ref a :: ls) st hp = ab_X rom K cX9_degree 7 1 16 (.ref a :: ls) (.ref a :: st) hp := ax_aload_n dX9_degree_15 rfl rfl
theorem dX9_degree_16 : decode cX9_degree 16 = .ok (.iload_n 1, 1) := by decide +kernel
theorem sX9_degree_16 : ab_X rom K cX9_degree 7 1 16 (v0 :: .int x :: ls) st hp = ab_X rom K cX9_degree 7 1 17 (v0 :: .int x :: ls) (.int x :: st) hp := ax_iload_n dX9_degree_16 rfl rfl
theorem dX9_degree_17 : decode cX9_degree 17 = .ok (.invokevirtual 64, 3) := by decide +kernel
theorem sX9_degree_17_0 : ab_X rom K cX9_degree 7 1 17 ls [w1, .ref a] hp = if ab_iso hp a 7 = true then (K 209 (.ref a :: [w1]) hp).bind (fun o => ab_X rom K cX9_degree 7 1 20 ls (o.1.toList ++ []) o.2) else none := ay_virtual (as := [w1]) (st := []) dX9_degree_17 kc_7_64 rfl rfl (Nat.le_of_ble_eq_true rfl)
theorem sX9_degree_17_1 : ab_X rom K cX9_degree 7 1 17 ls [w1, .ref a, v0] hp = if ab_iso hp a 7 = true then (K 209 (.ref a :: [w1]) hp).bind (fun o => ab_X rom K cX9_degree 7 1 20 ls (o.1.toList ++ [v0]) o.2) else none := ay_virtual (as := [w1]) (st := [v0]) dX9_degree_17 kc_7_64 rfl rfl (Nat.le_of_ble_eq_true rfl)
theorem sX9_degree_17_2 : ab_X rom K cX9_degree 7 1 17 ls [w1, .ref a, v0, v1] hp = if ab_iso hp a 7 = true then (K 209 (.ref a :: [w1]) hp).bind (fun o => ab_X rom K cX9_degree 7 1 20 ls (o.1.toList ++ [v0, v1]) o.2) else none := ay_virtual (as := [w1]) (st := [v0, v1]) dX9_degree_17 kc_7_64 rfl rfl (Nat.le_of_ble_eq_true rfl)
theorem sX9_degree_17_3 : ab_X rom K cX9_degree 7 1 17 ls [w1, .ref a, v0, v1, v2] hp = if ab_iso hp a 7 = true then (K 209 (.ref a :: [w1]) hp).bind (fun o => ab_X rom K cX9_degree 7 1 20 ls (o.1.toList ++ [v0, v1, v2]) o.2) else none := ay_virtual (as := [w1]) (st := [v0, v1, v2]) dX9_degree_17 kc_7_64 rfl rfl (Nat.le_of_ble_eq_true rfl)
theorem dX9_degree_20 : decode cX9_degree 20 = .ok (.if_icmp .ge 41, 3) := by decide +kernel
theorem sX9_degree_20 : ab_X rom K cX9_degree 7 1 20 ls (.int y :: .int x :: st) hp = if x < y then ab_X rom K cX9_degree 7 1 23 ls st hp else ab_X rom K cX9_degree 7 1 61 ls st hp := ax_icmp_ge dX9_degree_20 (by decide) rfl
theorem dX9_degree_23 : decode cX9_degree 23 = .ok (.aload_n 0, 1) := by decide +kernel
theorem sX9_degree_23 : ab_X rom K cX9_degree 7 1 23 (.ref a :: ls) st hp = ab_X rom K cX9_degree 7 1 24 (.ref a :: ls) (.ref a :: st) hp := ax_aload_n dX9_degree_23 rfl rfl
theorem dX9_degree_24 : decode cX9_degree 24 = .ok (.iload_n 1, 1) := by decide +kernel
theorem sX9_degree_24 : ab_X rom K cX9_degree 7 1 24 (v0 :: .int x :: ls) st hp = ab_X rom K cX9_degree 7 1 25 (v0 :: .int x :: ls) (.int x :: st) hp := ax_iload_n dX9_degree_24 rfl rfl
theorem dX9_degree_25 : decode cX9_degree 25 = .ok (.iload 4, 2) := by decide +kernel
theorem sX9_degree_25 : ab_X rom K cX9_degree 7 1 25 (v0 :: v1 :: v2 :: v3 :: .int x :: ls) st hp = ab_X rom K cX9_degree 7 1 27 (v0 :: v1 :: v2 :: v3 :: .int x :: ls) (.int x :: st) hp := ax_iload dX9_degree_25 rfl rfl
theorem dX9_degree_27 : decode cX9_degree 27 = .ok (.invokevirtual 73, 3) := by decide +kernel
theorem sX9_degree_27_0 : ab_X rom K cX9_degree 7 1 27 ls [w2, w1, .ref a] hp = if ab_iso hp a 7 = true then (K 179 (.ref a :: [w1, w2]) hp).bind (fun o => ab_X rom K cX9_degree 7 1 30 ls (o.1.toList ++ []) o.2) else none := ay_virtual (as := [w1, w2]) (st := []) dX9_degree_27 kc_7_73 rfl rfl (Nat.le_of_ble_eq_true rfl)
theorem sX9_degree_27_1 : ab_X rom K cX9_degree 7 1 27 ls [w2, w1, .ref a, v0] hp = if ab_iso hp a 7 = true then (K 179 (.ref a :: [w1, w2]) hp).bind (fun o => ab_X rom K cX9_degree 7 1 30 ls (o.1.toList ++ [v0]) o.2) else none := ay_virtual (as := [w1, w2]) (st := [v0]) dX9_degree_27 kc_7_73 rfl rfl (Nat.le_of_ble_eq_true rfl)
theorem sX9_degree_27_2 : ab_X rom K cX9_degree 7 1 27 ls [w2, w1, .ref a, v0, v1] hp = if ab_iso hp a 7 = true then (K 179 (.ref a :: [w1, w2]) hp).bind (fun o => ab_X rom K cX9_degree 7 1 30 ls (o.1.toList ++ [v0, v1]) o.2) else none := ay_virtual (as := [w1, w2]) (st := [v0, v1]) dX9_degree_27 kc_7_73 rfl rfl (Nat.le_of_ble_eq_true rfl)
theorem sX9_degree_27_3 : ab_X rom K cX9_degree 7 1 27 ls [w2, w1, .ref a, v0, v1, v2] hp = if ab_iso hp a 7 = true then (K 179 (.ref a :: [w1, w2]) hp).bind (fun o => ab_X rom K cX9_degree 7 1 30 ls (o.1.toList ++ [v0, v1, v2]) o.2) else none := ay_virtual (as := [w1, w2]) (st := [v0, v1, v2]) dX9_degree_27 kc_7_73 rfl rfl (Nat.le_of_ble_eq_true rfl)
theorem dX9_degree_30 : decode cX9_degree 30 = .ok (.invokestatic 81, 3) := by decide +kernel
theorem sX9_degree_30_0 : ab_X rom K cX9_degree 7 1 30 ls [w1] hp = (K 204 [w1] hp).bind (fun o => ab_X rom K cX9_degree 7 1 33 ls (o.1.toList ++ []) o.2) := ax_static (as := [w1]) (st := []) dX9_degree_30 kc_7_81 rfl rfl (Nat.le_of_ble_eq_true rfl)
theorem sX9_degree_30_1 : ab_X rom K cX9_degree 7 1 30 ls [w1, v0] hp = (K 204 [w1] hp).bind (fun o => ab_X rom K cX9_degree 7 1 33 ls (o.1.toList ++ [v0]) o.2) := ax_static (as := [w1]) (st := [v0]) dX9_degree_30 kc_7_81 rfl rfl (Nat.le_of_ble_eq_true rfl)
theorem sX9_degree_30_2 : ab_X rom K cX9_degree 7 1 30 ls [w1, v0, v1] hp = (K 204 [w1] hp).bind (fun o => ab_X rom K cX9_degree 7 1 33 ls (o.1.toList ++ [v0, v1]) o.2) := ax_static (as := [w1]) (st := [v0, v1]) dX9_degree_30 kc_7_81 rfl rfl (Nat.le_of_ble_eq_true rfl)
theorem sX9_degree_30_3 : ab_X rom K cX9_degree 7 1 30 ls [w1, v0, v1, v2] hp = (K 204 [w1] hp).bind (fun o => ab_X rom K cX9_degree 7 1 33 ls (o.1.toList ++ [v0, v1, v2]) o.2) := ax_static (as := [w1]) (st := [v0, v1, v2]) dX9_degree_30 kc_7_81 rfl rfl (Nat.le_of_ble_eq_true rfl)
theorem dX9_degree_33 : decode cX9_degree 33 = .ok (.istore 5, 2) := by decide +kernel
theorem sX9_degree_33i : ab_X rom K cX9_degree 7 1 33 (v0 :: v1 :: v2 :: v3 :: .int y :: v5 :: ls) (.int x :: st) hp = ab_X rom K cX9_degree 7 1 35 (v0 :: v1 :: v2 :: v3 :: .int y :: .int x :: ls) st hp := ax_istore dX9_degree_33 (ax_lt (v := v5) rfl) (ab_nl_c1 (j := 4) (v := .int y) rfl (ab_c1_int _)) rfl rfl
theorem sX9_degree_33r : ab_X rom K cX9_degree 7 1 33 (v0 :: v1 :: v2 :: v3 :: .ref a2 :: v5 :: ls) (.int x :: st) hp = ab_X rom K cX9_degree 7 1 35 (v0 :: v1 :: v2 :: v3 :: .ref a2 :: .int x :: ls) st hp := ax_istore dX9_degree_33 (ax_lt (v := v5) rfl) (ab_nl_c1 (j := 4) (v := .ref a2) rfl (ab_c1_ref _)) rfl rfl
theorem sX9_degree_33n : ab_X rom K cX9_degree 7 1 33 (v0 :: v1 :: v2 :: v3 :: .null :: v5 :: ls) (.int x :: st) hp = ab_X rom K cX9_degree 7 1 35 (v0 :: v1 :: v2 :: v3 :: .null :: .int x :: ls) st hp := ax_istore dX9_degree_33 (ax_lt (v := v5) rfl) (ab_nl_c1 (j := 4) (v := .null) rfl ab_c1_null) rfl rfl
theorem dX9_degree_35 : decode cX9_degree 35 = .ok (.iload_n 2, 1) := by decide +kernel
theorem sX9_degree_35 : ab_X rom K cX9_degree 7 1 35 (v0 :: v1 :: .int x :: ls) st hp = ab_X rom K cX9_degree 7 1 36 (v0 :: v1 :: .int x :: ls) (.int x :: st) hp := ax_iload_n dX9_degree_35 rfl rfl
theorem dX9_degree_36 : decode cX9_degree 36 = .ok (.ifCond .eq 12, 3) := by decide +kernel
theorem sX9_degree_36 : ab_X rom K cX9_degree 7 1 36 ls (.int x :: st) hp = if x = 0 then ab_X rom K cX9_degree 7 1 48 ls st hp else ab_X rom K cX9_degree 7 1 39 ls st hp := ax_if_eq dX9_degree_36 (by decide) rfl
theorem dX9_degree_39 : decode cX9_degree 39 = .ok (.iload_n 3, 1) := by decide +kernel
theorem sX9_degree_39 : ab_X rom K cX9_degree 7 1 39 (v0 :: v1 :: v2 :: .int x :: ls) st hp = ab_X rom K cX9_degree 7 1 40 (v0 :: v1 :: v2 :: .int x :: ls) (.int x :: st) hp := ax_iload_n dX9_degree_39 rfl rfl
theorem dX9_degree_40 : decode cX9_degree 40 = .ok (.iload 5, 2) := by decide +kernel
theorem sX9_degree_40 : ab_X rom K cX9_degree 7 1 40 (v0 :: v1 :: v2 :: v3 :: v4 :: .int x :: ls) st hp = ab_X rom K cX9_degree 7 1 42 (v0 :: v1 :: v2 :: v3 :: v4 :: .int x :: ls) (.int x :: st) hp := ax_iload dX9_degree_40 rfl rfl
theorem dX9_degree_42 : decode cX9_degree 42 = .ok (.invokestatic 197, 3) := by decide +kernel
theorem sX9_degree_42_0 : ab_X rom K cX9_degree 7 1 42 ls [.int y, .int x] hp = ab_X rom K cX9_degree 7 1 45 ls [.int (ab_max x y)] hp := ax_max dX9_degree_42 kc_7_197 rfl (Nat.le_of_ble_eq_true rfl)
theorem sX9_degree_42_1 : ab_X rom K cX9_degree 7 1 42 ls [.int y, .int x, v0] hp = ab_X rom K cX9_degree 7 1 45 ls [.int (ab_max x y), v0] hp := ax_max dX9_degree_42 kc_7_197 rfl (Nat.le_of_ble_eq_true rfl)
theorem sX9_degree_42_2 : ab_X rom K cX9_degree 7 1 42 ls [.int y, .int x, v0, v1] hp = ab_X rom K cX9_degree 7 1 45 ls [.int (ab_max x y), v0, v1] hp := ax_max dX9_degree_42 kc_7_197 rfl (Nat.le_of_ble_eq_true rfl)
theorem sX9_degree_42_3 : ab_X rom K cX9_degree 7 1 42 ls [.int y, .int x, v0, v1, v2] hp = ab_X rom K cX9_degree 7 1 45 ls [.int (ab_max x y), v0, v1, v2] hp := ax_max dX9_degree_42 kc_7_197 rfl (Nat.le_of_ble_eq_true rfl)
theorem dX9_degree_45 : decode cX9_degree 45 = .ok (.goto 9, 3) := by decide +kernel
theorem sX9_degree_45 : ab_X rom K cX9_degree 7 1 45 ls st hp = ab_X rom K cX9_degree 7 1 54 ls st hp := ax_goto dX9_degree_45 (by decide)
theorem dX9_degree_48 : decode cX9_degree 48 = .ok (.iload_n 3, 1) := by decide +kernel
theorem sX9_degree_48 : ab_X rom K cX9_degree 7 1 48 (v0 :: v1 :: v2 :: .int x :: ls) st hp = ab_X rom K cX9_degree 7 1 49 (v0 :: v1 :: v2 :: .int x :: ls) (.int x :: st) hp := ax_iload_n dX9_degree_48 rfl rfl
theorem dX9_degree_49 : decode cX9_degree 49 = .ok (.iload 5, 2) := by decide +kernel
theorem sX9_degree_49 : ab_X rom K cX9_degree 7 1 49 (v0 :: v1 :: v2 :: v3 :: v4 :: .int x :: ls) st hp = ab_X rom K cX9_degree 7 1 51 (v0 :: v1 :: v2 :: v3 :: v4 :: .int x :: ls) (.int x :: st) hp := ax_iload dX9_degree_49 rfl rfl
theorem dX9_degree_51 : decode cX9_degree 51 = .ok (.invokestatic 115, 3) := by decide +kernel
theorem sX9_degree_51_0 : ab_X rom K cX9_degree 7 1 51 ls [.int y, .int x] hp = ab_X rom K cX9_degree 7 1 54 ls [.int (ab_min x y)] hp := ax_min dX9_degree_51 kc_7_115 rfl (Nat.le_of_ble_eq_true rfl)
theorem sX9_degree_51_1 : ab_X rom K cX9_degree 7 1 51 ls [.int y, .int x, v0] hp = ab_X rom K cX9_degree 7 1 54 ls [.int (ab_min x y), v0] hp := ax_min dX9_degree_51 kc_7_115 rfl (Nat.le_of_ble_eq_true rfl)
theorem sX9_degree_51_2 : ab_X rom K cX9_degree 7 1 51 ls [.int y, .int x, v0, v1] hp = ab_X rom K cX9_degree 7 1 54 ls [.int (ab_min x y), v0, v1] hp := ax_min dX9_degree_51 kc_7_115 rfl (Nat.le_of_ble_eq_true rfl)
theorem sX9_degree_51_3 : ab_X rom K cX9_degree 7 1 51 ls [.int y, .int x, v0, v1, v2] hp = ab_X rom K cX9_degree 7 1 54 ls [.int (ab_min x y), v0, v1, v2] hp := ax_min dX9_degree_51 kc_7_115 rfl (Nat.le_of_ble_eq_true rfl)
theorem dX9_degree_54 : decode cX9_degree 54 = .ok (.istore_n 3, 1) := by decide +kernel
theorem sX9_degree_54i : ab_X rom K cX9_degree 7 1 54 (v0 :: v1 :: .int y :: v3 :: ls) (.int x :: st) hp = ab_X rom K cX9_degree 7 1 55 (v0 :: v1 :: .int y :: .int x :: ls) st hp := ax_istore_n dX9_degree_54 (ax_lt (v := v3) rfl) (ab_nl_c1 (j := 2) (v := .int y) rfl (ab_c1_int _)) rfl rfl
theorem sX9_degree_54r : ab_X rom K cX9_degree 7 1 54 (v0 :: v1 :: .ref a2 :: v3 :: ls) (.int x :: st) hp = ab_X rom K cX9_degree 7 1 55 (v0 :: v1 :: .ref a2 :: .int x :: ls) st hp := ax_istore_n dX9_degree_54 (ax_lt (v := v3) rfl) (ab_nl_c1 (j := 2) (v := .ref a2) rfl (ab_c1_ref _)) rfl rfl
theorem sX9_degree_54n : ab_X rom K cX9_degree 7 1 54 (v0 :: v1 :: .null :: v3 :: ls) (.int x :: st) hp = ab_X rom K cX9_degree 7 1 55 (v0 :: v1 :: .null :: .int x :: ls) st hp := ax_istore_n dX9_degree_54 (ax_lt (v := v3) rfl) (ab_nl_c1 (j := 2) (v := .null) rfl ab_c1_null) rfl rfl
theorem dX9_degree_55 : decode cX9_degree 55 = .ok (.iinc 4 1, 3) := by decide +kernel
theorem sX9_degree_55i : ab_X rom K cX9_degree 7 1 55 (v0 :: v1 :: v2 :: .int y :: .int x :: ls) st hp = ab_X rom K cX9_degree 7 1 58 (v0 :: v1 :: v2 :: .int y :: .int (x + 1) :: ls) st hp := ax_iinc dX9_degree_55 rfl (ab_nl_c1 (j := 3) (v := .int y) rfl (ab_c1_int _)) (by decide) rfl rfl
theorem sX9_degree_55r : ab_X rom K cX9_degree 7 1 55 (v0 :: v1 :: v2 :: .ref a2 :: .int x :: ls) st hp = ab_X rom K cX9_degree 7 1 58 (v0 :: v1 :: v2 :: .ref a2 :: .int (x + 1) :: ls) st hp := ax_iinc dX9_degree_55 rfl (ab_nl_c1 (j := 3) (v := .ref a2) rfl (ab_c1_ref _)) (by decide) rfl rfl
theorem sX9_degree_55n : ab_X rom K cX9_degree 7 1 55 (v0 :: v1 :: v2 :: .null :: .int x :: ls) st hp = ab_X rom K cX9_degree 7 1 58 (v0 :: v1 :: v2 :: .null :: .int (x + 1) :: ls) st hp := ax_iinc dX9_degree_55 rfl (ab_nl_c1 (j := 3) (v := .null) rfl ab_c1_null) (by decide) rfl rfl
theorem dX9_degree_58 : decode cX9_degree 58 = .ok (.goto (-45), 3) := by decide +kernel
theorem sX9_degree_58 : ab_X rom K cX9_degree 7 1 58 ls st hp = ab_X rom K cX9_degree 7 1 13 ls st hp := ax_goto dX9_degree_58 (by decide)
theorem dX9_degree_61 : decode cX9_degree 61 = .ok (.iload_n 3, 1) := by decide +kernel
theorem sX9_degree_61 : ab_X rom K cX9_degree 7 1 61 (v0 :: v1 :: v2 :: .int x :: ls) st hp = ab_X rom K cX9_degree 7 1 62 (v0 :: v1 :: v2 :: .int x :: ls) (.int x :: st) hp := ax_iload_n dX9_degree_61 rfl rfl
theorem dX9_degree_62 : decode cX9_degree 62 = .ok (.ireturn, 1) := by decide +kernel
theorem sX9_degree_62 : ab_X rom K cX9_degree 7 1 62 ls [.int x] hp = some (some (.int x), hp) := ax_iret dX9_degree_62 rfl
theorem tX9_done : ab_mT[144]? = some (yX9_done, cX9_done, 3, 1, 7) := by decide +kernel
theorem mX9_done {d : Nat} {a0 : Nat} {x0 : Int32} : ab_M rom (d + 1) 144 [.ref a0, .int x0] hp = ab_X rom (ab_M rom d) cX9_done 7 1 0 [.ref a0, .int x0, .null] [] hp := ab_M_eq tX9_done (Nat.le_of_ble_eq_true rfl)
theorem dX9_done_0 : decode cX9_done 0 = .ok (.aload_n 0, 1) := by decide +kernel
theorem sX9_done_0 : ab_X rom K cX9_done 7 1 0 (.ref a :: ls) st hp = ab_X rom K cX9_done 7 1 1 (.ref a :: ls) (.ref a :: st) hp := ax_aload_n dX9_done_0 rfl rfl
theorem dX9_done_1 : decode cX9_done 1 = .ok (.getfield 84, 3) := by decide +kernel
theorem sX9_done_1 : ab_X rom K cX9_done 7 1 1 ls (.ref a :: st) hp = (ab_fld hp a 7 3).bind (fun v => ab_X rom K cX9_done 7 1 4 ls (v :: st) hp) := ax_getfield dX9_done_1 kf_7_84 rfl
theorem dX9_done_4 : decode cX9_done 4 = .ok (.bipush 10, 2) := by decide +kernel
theorem sX9_done_4 : ab_X rom K cX9_done 7 1 4 ls st hp = ab_X rom K cX9_done 7 1 6 ls (.int 10 :: st) hp := ax_bipush dX9_done_4 (by decide) rfl
theorem dX9_done_6 : decode cX9_done 6 = .ok (.if_icmp .ne 43, 3) := by decide +kernel
theorem sX9_done_6 : ab_X rom K cX9_done 7 1 6 ls (.int y :: .int x :: st) hp = if x = y then ab_X rom K cX9_done 7 1 9 ls st hp else ab_X rom K cX9_done 7 1 49 ls st hp := ax_icmp_ne dX9_done_6 (by decide) rfl
theorem dX9_done_9 : decode cX9_done 9 = .ok (.iconst 0, 1) := by decide +kernel
theorem sX9_done_9 : ab_X rom K cX9_done 7 1 9 ls st hp = ab_X rom K cX9_done 7 1 10 ls (.int 0 :: st) hp := ax_iconst dX9_done_9 (by decide) rfl
theorem dX9_done_10 : decode cX9_done 10 = .ok (.istore_n 2, 1) := by decide +kernel
theorem sX9_done_10i : ab_X rom K cX9_done 7 1 10 (v0 :: .int y :: v2 :: ls) (.int x :: st) hp = ab_X rom K cX9_done 7 1 11 (v0 :: .int y :: .int x :: ls) st hp := ax_istore_n dX9_done_10 (ax_lt (v := v2) rfl) (ab_nl_c1 (j := 1) (v := .int y) rfl (ab_c1_int _)) rfl rfl
theorem sX9_done_10r : ab_X rom K cX9_done 7 1 10 (v0 :: .ref a2 :: v2 :: ls) (.int x :: st) hp = ab_X rom K cX9_done 7 1 11 (v0 :: .ref a2 :: .int x :: ls) st hp := ax_istore_n dX9_done_10 (ax_lt (v := v2) rfl) (ab_nl_c1 (j := 1) (v := .ref a2) rfl (ab_c1_ref _)) rfl rfl
theorem sX9_done_10n : ab_X rom K cX9_done 7 1 10 (v0 :: .null :: v2 :: ls) (.int x :: st) hp = ab_X rom K cX9_done 7 1 11 (v0 :: .null :: .int x :: ls) st hp := ax_istore_n dX9_done_10 (ax_lt (v := v2) rfl) (ab_nl_c1 (j := 1) (v := .null) rfl ab_c1_null) rfl rfl
theorem dX9_done_11 : decode cX9_done 11 = .ok (.iload_n 2, 1) := by decide +kernel
theorem sX9_done_11 : ab_X rom K cX9_done 7 1 11 (v0 :: v1 :: .int x :: ls) st hp = ab_X rom K cX9_done 7 1 12 (v0 :: v1 :: .int x :: ls) (.int x :: st) hp := ax_iload_n dX9_done_11 rfl rfl
theorem dX9_done_12 : decode cX9_done 12 = .ok (.sipush 405, 3) := by decide +kernel
theorem sX9_done_12 : ab_X rom K cX9_done 7 1 12 ls st hp = ab_X rom K cX9_done 7 1 15 ls (.int 405 :: st) hp := ax_sipush dX9_done_12 (by decide) rfl
theorem dX9_done_15 : decode cX9_done 15 = .ok (.if_icmp .ge 24, 3) := by decide +kernel
theorem sX9_done_15 : ab_X rom K cX9_done 7 1 15 ls (.int y :: .int x :: st) hp = if x < y then ab_X rom K cX9_done 7 1 18 ls st hp else ab_X rom K cX9_done 7 1 39 ls st hp := ax_icmp_ge dX9_done_15 (by decide) rfl
theorem dX9_done_18 : decode cX9_done 18 = .ok (.aload_n 0, 1) := by decide +kernel
theorem sX9_done_18 : ab_X rom K cX9_done 7 1 18 (.ref a :: ls) st hp = ab_X rom K cX9_done 7 1 19 (.ref a :: ls) (.ref a :: st) hp := ax_aload_n dX9_done_18 rfl rfl
theorem dX9_done_19 : decode cX9_done 19 = .ok (.getfield 16, 3) := by decide +kernel
theorem sX9_done_19 : ab_X rom K cX9_done 7 1 19 ls (.ref a :: st) hp = (ab_fld hp a 7 2).bind (fun v => ab_X rom K cX9_done 7 1 22 ls (v :: st) hp) := ax_getfield dX9_done_19 kf_7_16 rfl
theorem dX9_done_22 : decode cX9_done 22 = .ok (.iload_n 2, 1) := by decide +kernel
theorem sX9_done_22 : ab_X rom K cX9_done 7 1 22 (v0 :: v1 :: .int x :: ls) st hp = ab_X rom K cX9_done 7 1 23 (v0 :: v1 :: .int x :: ls) (.int x :: st) hp := ax_iload_n dX9_done_22 rfl rfl
theorem dX9_done_23 : decode cX9_done 23 = .ok (.aload_n 0, 1) := by decide +kernel
theorem sX9_done_23 : ab_X rom K cX9_done 7 1 23 (.ref a :: ls) st hp = ab_X rom K cX9_done 7 1 24 (.ref a :: ls) (.ref a :: st) hp := ax_aload_n dX9_done_23 rfl rfl
theorem dX9_done_24 : decode cX9_done 24 = .ok (.getfield 16, 3) := by decide +kernel
theorem sX9_done_24 : ab_X rom K cX9_done 7 1 24 ls (.ref a :: st) hp = (ab_fld hp a 7 2).bind (fun v => ab_X rom K cX9_done 7 1 27 ls (v :: st) hp) := ax_getfield dX9_done_24 kf_7_16 rfl
theorem dX9_done_27 : decode cX9_done 27 = .ok (.iload_n 2, 1) := by decide +kernel
theorem sX9_done_27 : ab_X rom K cX9_done 7 1 27 (v0 :: v1 :: .int x :: ls) st hp = ab_X rom K cX9_done 7 1 28 (v0 :: v1 :: .int x :: ls) (.int x :: st) hp := ax_iload_n dX9_done_27 rfl rfl
theorem dX9_done_28 : decode cX9_done 28 = .ok (.bipush 45, 2) := by decide +kernel
theorem sX9_done_28 : ab_X rom K cX9_done 7 1 28 ls st hp = ab_X rom K cX9_done 7 1 30 ls (.int 45 :: st) hp := ax_bipush dX9_done_28 (by decide) rfl
theorem dX9_done_30 : decode cX9_done 30 = .ok (.iadd, 1) := by decide +kernel
theorem sX9_done_30 : ab_X rom K cX9_done 7 1 30 ls (.int y :: .int x :: st) hp = ab_X rom K cX9_done 7 1 31 ls (.int (x + y) :: st) hp := ax_iadd dX9_done_30 rfl
theorem dX9_done_31 : decode cX9_done 31 = .ok (.iaload, 1) := by decide +kernel
theorem sX9_done_31 : ab_X rom K cX9_done 7 1 31 ls (.int x :: .ref a :: st) hp = (ab_ard rom 0 hp a x).bind (fun v => ab_X rom K cX9_done 7 1 32 ls (.int v :: st) hp) := ax_iaload dX9_done_31 rfl
theorem dX9_done_32 : decode cX9_done 32 = .ok (.iastore, 1) := by decide +kernel
theorem sX9_done_32 : ab_X rom K cX9_done 7 1 32 ls (.int y :: .int x :: .ref a :: st) hp = (ab_awr 0 hp a x y).bind (fun hp' => ab_X rom K cX9_done 7 1 33 ls st hp') := ax_iastore dX9_done_32 rfl
theorem dX9_done_33 : decode cX9_done 33 = .ok (.iinc 2 1, 3) := by decide +kernel
theorem sX9_done_33i : ab_X rom K cX9_done 7 1 33 (v0 :: .int y :: .int x :: ls) st hp = ab_X rom K cX9_done 7 1 36 (v0 :: .int y :: .int (x + 1) :: ls) st hp := ax_iinc dX9_done_33 rfl (ab_nl_c1 (j := 1) (v := .int y) rfl (ab_c1_int _)) (by decide) rfl rfl
theorem sX9_done_33r : ab_X rom K cX9_done 7 1 33 (v0 :: .ref a2 :: .int x :: ls) st hp = ab_X rom K cX9_done 7 1 36 (v0 :: .ref a2 :: .int (x + 1) :: ls) st hp := ax_iinc dX9_done_33 rfl (ab_nl_c1 (j := 1) (v := .ref a2) rfl (ab_c1_ref _)) (by decide) rfl rfl
theorem sX9_done_33n : ab_X rom K cX9_done 7 1 33 (v0 :: .null :: .int x :: ls) st hp = ab_X rom K cX9_done 7 1 36 (v0 :: .null :: .int (x + 1) :: ls) st hp := ax_iinc dX9_done_33 rfl (ab_nl_c1 (j := 1) (v := .null) rfl ab_c1_null) (by decide) rfl rfl
theorem dX9_done_36 : decode cX9_done 36 = .ok (.goto (-25), 3) := by decide +kernel
theorem sX9_done_36 : ab_X rom K cX9_done 7 1 36 ls st hp = ab_X rom K cX9_done 7 1 11 ls st hp := ax_goto dX9_done_36 (by decide)
theorem dX9_done_39 : decode cX9_done 39 = .ok (.aload_n 0, 1) := by decide +kernel
theorem sX9_done_39 : ab_X rom K cX9_done 7 1 39 (.ref a :: ls) st hp = ab_X rom K cX9_done 7 1 40 (.ref a :: ls) (.ref a :: st) hp := ax_aload_n dX9_done_39 rfl rfl
theorem dX9_done_40 : decode cX9_done 40 = .ok (.dup, 1) := by decide +kernel
theorem sX9_done_40i : ab_X rom K cX9_done 7 1 40 ls (.int x :: st) hp = ab_X rom K cX9_done 7 1 41 ls (.int x :: .int x :: st) hp := ax_dup dX9_done_40 rfl (ab_c1_int _)
theorem sX9_done_40r : ab_X rom K cX9_done 7 1 40 ls (.ref a :: st) hp = ab_X rom K cX9_done 7 1 41 ls (.ref a :: .ref a :: st) hp := ax_dup dX9_done_40 rfl (ab_c1_ref _)
theorem dX9_done_41 : decode cX9_done 41 = .ok (.getfield 84, 3) := by decide +kernel
theorem sX9_done_41 : ab_X rom K cX9_done 7 1 41 ls (.ref a :: st) hp = (ab_fld hp a 7 3).bind (fun v => ab_X rom K cX9_done 7 1 44 ls (v :: st) hp) := ax_getfield dX9_done_41 kf_7_84 rfl
theorem dX9_done_44 : decode cX9_done 44 = .ok (.iconst 1, 1) := by decide +kernel
theorem sX9_done_44 : ab_X rom K cX9_done 7 1 44 ls st hp = ab_X rom K cX9_done 7 1 45 ls (.int 1 :: st) hp := ax_iconst dX9_done_44 (by decide) rfl
theorem dX9_done_45 : decode cX9_done 45 = .ok (.isub, 1) := by decide +kernel
theorem sX9_done_45 : ab_X rom K cX9_done 7 1 45 ls (.int y :: .int x :: st) hp = ab_X rom K cX9_done 7 1 46 ls (.int (x - y) :: st) hp := ax_isub dX9_done_45 rfl
theorem dX9_done_46 : decode cX9_done 46 = .ok (.putfield 84, 3) := by decide +kernel
theorem sX9_done_46 : ab_X rom K cX9_done 7 1 46 ls (.int x :: .ref a :: st) hp = (ab_fpt hp a 7 3 (.int x)).bind (fun hp' => ab_X rom K cX9_done 7 1 49 ls st hp') := ax_putfield dX9_done_46 kf_7_84 rfl (Or.inl rfl) rfl
theorem dX9_done_49 : decode cX9_done 49 = .ok (.iconst 0, 1) := by decide +kernel
theorem sX9_done_49 : ab_X rom K cX9_done 7 1 49 ls st hp = ab_X rom K cX9_done 7 1 50 ls (.int 0 :: st) hp := ax_iconst dX9_done_49 (by decide) rfl
theorem dX9_done_50 : decode cX9_done 50 = .ok (.istore_n 2, 1) := by decide +kernel
theorem sX9_done_50i : ab_X rom K cX9_done 7 1 50 (v0 :: .int y :: v2 :: ls) (.int x :: st) hp = ab_X rom K cX9_done 7 1 51 (v0 :: .int y :: .int x :: ls) st hp := ax_istore_n dX9_done_50 (ax_lt (v := v2) rfl) (ab_nl_c1 (j := 1) (v := .int y) rfl (ab_c1_int _)) rfl rfl
theorem sX9_done_50r : ab_X rom K cX9_done 7 1 50 (v0 :: .ref a2 :: v2 :: ls) (.int x :: st) hp = ab_X rom K cX9_done 7 1 51 (v0 :: .ref a2 :: .int x :: ls) st hp := ax_istore_n dX9_done_50 (ax_lt (v := v2) rfl) (ab_nl_c1 (j := 1) (v := .ref a2) rfl (ab_c1_ref _)) rfl rfl
theorem sX9_done_50n : ab_X rom K cX9_done 7 1 50 (v0 :: .null :: v2 :: ls) (.int x :: st) hp = ab_X rom K cX9_done 7 1 51 (v0 :: .null :: .int x :: ls) st hp := ax_istore_n dX9_done_50 (ax_lt (v := v2) rfl) (ab_nl_c1 (j := 1) (v := .null) rfl ab_c1_null) rfl rfl
theorem dX9_done_51 : decode cX9_done 51 = .ok (.iload_n 2, 1) := by decide +kernel
theorem sX9_done_51 : ab_X rom K cX9_done 7 1 51 (v0 :: v1 :: .int x :: ls) st hp = ab_X rom K cX9_done 7 1 52 (v0 :: v1 :: .int x :: ls) (.int x :: st) hp := ax_iload_n dX9_done_51 rfl rfl
theorem dX9_done_52 : decode cX9_done 52 = .ok (.bipush 45, 2) := by decide +kernel
theorem sX9_done_52 : ab_X rom K cX9_done 7 1 52 ls st hp = ab_X rom K cX9_done 7 1 54 ls (.int 45 :: st) hp := ax_bipush dX9_done_52 (by decide) rfl
theorem dX9_done_54 : decode cX9_done 54 = .ok (.if_icmp .ge 29, 3) := by decide +kernel
theorem sX9_done_54 : ab_X rom K cX9_done 7 1 54 ls (.int y :: .int x :: st) hp = if x < y then ab_X rom K cX9_done 7 1 57 ls st hp else ab_X rom K cX9_done 7 1 83 ls st hp := ax_icmp_ge dX9_done_54 (by decide) rfl
theorem dX9_done_57 : decode cX9_done 57 = .ok (.aload_n 0, 1) := by decide +kernel
theorem sX9_done_57 : ab_X rom K cX9_done 7 1 57 (.ref a :: ls) st hp = ab_X rom K cX9_done 7 1 58 (.ref a :: ls) (.ref a :: st) hp := ax_aload_n dX9_done_57 rfl rfl
theorem dX9_done_58 : decode cX9_done 58 = .ok (.getfield 16, 3) := by decide +kernel
theorem sX9_done_58 : ab_X rom K cX9_done 7 1 58 ls (.ref a :: st) hp = (ab_fld hp a 7 2).bind (fun v => ab_X rom K cX9_done 7 1 61 ls (v :: st) hp) := ax_getfield dX9_done_58 kf_7_16 rfl
theorem dX9_done_61 : decode cX9_done 61 = .ok (.bipush 45, 2) := by decide +kernel
theorem sX9_done_61 : ab_X rom K cX9_done 7 1 61 ls st hp = ab_X rom K cX9_done 7 1 63 ls (.int 45 :: st) hp := ax_bipush dX9_done_61 (by decide) rfl
theorem dX9_done_63 : decode cX9_done 63 = .ok (.aload_n 0, 1) := by decide +kernel
theorem sX9_done_63 : ab_X rom K cX9_done 7 1 63 (.ref a :: ls) st hp = ab_X rom K cX9_done 7 1 64 (.ref a :: ls) (.ref a :: st) hp := ax_aload_n dX9_done_63 rfl rfl
theorem dX9_done_64 : decode cX9_done 64 = .ok (.getfield 84, 3) := by decide +kernel
theorem sX9_done_64 : ab_X rom K cX9_done 7 1 64 ls (.ref a :: st) hp = (ab_fld hp a 7 3).bind (fun v => ab_X rom K cX9_done 7 1 67 ls (v :: st) hp) := ax_getfield dX9_done_64 kf_7_84 rfl
theorem dX9_done_67 : decode cX9_done 67 = .ok (.imul, 1) := by decide +kernel
theorem sX9_done_67 : ab_X rom K cX9_done 7 1 67 ls (.int y :: .int x :: st) hp = ab_X rom K cX9_done 7 1 68 ls (.int (x * y) :: st) hp := ax_imul dX9_done_67 rfl
theorem dX9_done_68 : decode cX9_done 68 = .ok (.iload_n 2, 1) := by decide +kernel
theorem sX9_done_68 : ab_X rom K cX9_done 7 1 68 (v0 :: v1 :: .int x :: ls) st hp = ab_X rom K cX9_done 7 1 69 (v0 :: v1 :: .int x :: ls) (.int x :: st) hp := ax_iload_n dX9_done_68 rfl rfl
theorem dX9_done_69 : decode cX9_done 69 = .ok (.iadd, 1) := by decide +kernel
theorem sX9_done_69 : ab_X rom K cX9_done 7 1 69 ls (.int y :: .int x :: st) hp = ab_X rom K cX9_done 7 1 70 ls (.int (x + y) :: st) hp := ax_iadd dX9_done_69 rfl
theorem dX9_done_70 : decode cX9_done 70 = .ok (.aload_n 0, 1) := by decide +kernel
theorem sX9_done_70 : ab_X rom K cX9_done 7 1 70 (.ref a :: ls) st hp = ab_X rom K cX9_done 7 1 71 (.ref a :: ls) (.ref a :: st) hp := ax_aload_n dX9_done_70 rfl rfl
theorem dX9_done_71 : decode cX9_done 71 = .ok (.getfield 13, 3) := by decide +kernel
theorem sX9_done_71 : ab_X rom K cX9_done 7 1 71 ls (.ref a :: st) hp = (ab_fld hp a 7 1).bind (fun v => ab_X rom K cX9_done 7 1 74 ls (v :: st) hp) := ax_getfield dX9_done_71 kf_7_13 rfl
theorem dX9_done_74 : decode cX9_done 74 = .ok (.iload_n 2, 1) := by decide +kernel
theorem sX9_done_74 : ab_X rom K cX9_done 7 1 74 (v0 :: v1 :: .int x :: ls) st hp = ab_X rom K cX9_done 7 1 75 (v0 :: v1 :: .int x :: ls) (.int x :: st) hp := ax_iload_n dX9_done_74 rfl rfl
theorem dX9_done_75 : decode cX9_done 75 = .ok (.iaload, 1) := by decide +kernel
theorem sX9_done_75 : ab_X rom K cX9_done 7 1 75 ls (.int x :: .ref a :: st) hp = (ab_ard rom 0 hp a x).bind (fun v => ab_X rom K cX9_done 7 1 76 ls (.int v :: st) hp) := ax_iaload dX9_done_75 rfl
theorem dX9_done_76 : decode cX9_done 76 = .ok (.iastore, 1) := by decide +kernel
theorem sX9_done_76 : ab_X rom K cX9_done 7 1 76 ls (.int y :: .int x :: .ref a :: st) hp = (ab_awr 0 hp a x y).bind (fun hp' => ab_X rom K cX9_done 7 1 77 ls st hp') := ax_iastore dX9_done_76 rfl
theorem dX9_done_77 : decode cX9_done 77 = .ok (.iinc 2 1, 3) := by decide +kernel
theorem sX9_done_77i : ab_X rom K cX9_done 7 1 77 (v0 :: .int y :: .int x :: ls) st hp = ab_X rom K cX9_done 7 1 80 (v0 :: .int y :: .int (x + 1) :: ls) st hp := ax_iinc dX9_done_77 rfl (ab_nl_c1 (j := 1) (v := .int y) rfl (ab_c1_int _)) (by decide) rfl rfl
theorem sX9_done_77r : ab_X rom K cX9_done 7 1 77 (v0 :: .ref a2 :: .int x :: ls) st hp = ab_X rom K cX9_done 7 1 80 (v0 :: .ref a2 :: .int (x + 1) :: ls) st hp := ax_iinc dX9_done_77 rfl (ab_nl_c1 (j := 1) (v := .ref a2) rfl (ab_c1_ref _)) (by decide) rfl rfl
theorem sX9_done_77n : ab_X rom K cX9_done 7 1 77 (v0 :: .null :: .int x :: ls) st hp = ab_X rom K cX9_done 7 1 80 (v0 :: .null :: .int (x + 1) :: ls) st hp := ax_iinc dX9_done_77 rfl (ab_nl_c1 (j := 1) (v := .null) rfl ab_c1_null) (by decide) rfl rfl
theorem dX9_done_80 : decode cX9_done 80 = .ok (.goto (-29), 3) := by decide +kernel
theorem sX9_done_80 : ab_X rom K cX9_done 7 1 80 ls st hp = ab_X rom K cX9_done 7 1 51 ls st hp := ax_goto dX9_done_80 (by decide)
theorem dX9_done_83 : decode cX9_done 83 = .ok (.aload_n 0, 1) := by decide +kernel
theorem sX9_done_83 : ab_X rom K cX9_done 7 1 83 (.ref a :: ls) st hp = ab_X rom K cX9_done 7 1 84 (.ref a :: ls) (.ref a :: st) hp := ax_aload_n dX9_done_83 rfl rfl
theorem dX9_done_84 : decode cX9_done 84 = .ok (.dup, 1) := by decide +kernel
theorem sX9_done_84i : ab_X rom K cX9_done 7 1 84 ls (.int x :: st) hp = ab_X rom K cX9_done 7 1 85 ls (.int x :: .int x :: st) hp := ax_dup dX9_done_84 rfl (ab_c1_int _)
theorem sX9_done_84r : ab_X rom K cX9_done 7 1 84 ls (.ref a :: st) hp = ab_X rom K cX9_done 7 1 85 ls (.ref a :: .ref a :: st) hp := ax_dup dX9_done_84 rfl (ab_c1_ref _)
theorem dX9_done_85 : decode cX9_done 85 = .ok (.getfield 84, 3) := by decide +kernel
theorem sX9_done_85 : ab_X rom K cX9_done 7 1 85 ls (.ref a :: st) hp = (ab_fld hp a 7 3).bind (fun v => ab_X rom K cX9_done 7 1 88 ls (v :: st) hp) := ax_getfield dX9_done_85 kf_7_84 rfl
theorem dX9_done_88 : decode cX9_done 88 = .ok (.iconst 1, 1) := by decide +kernel
theorem sX9_done_88 : ab_X rom K cX9_done 7 1 88 ls st hp = ab_X rom K cX9_done 7 1 89 ls (.int 1 :: st) hp := ax_iconst dX9_done_88 (by decide) rfl
theorem dX9_done_89 : decode cX9_done 89 = .ok (.iadd, 1) := by decide +kernel
theorem sX9_done_89 : ab_X rom K cX9_done 7 1 89 ls (.int y :: .int x :: st) hp = ab_X rom K cX9_done 7 1 90 ls (.int (x + y) :: st) hp := ax_iadd dX9_done_89 rfl
theorem dX9_done_90 : decode cX9_done 90 = .ok (.putfield 84, 3) := by decide +kernel
theorem sX9_done_90 : ab_X rom K cX9_done 7 1 90 ls (.int x :: .ref a :: st) hp = (ab_fpt hp a 7 3 (.int x)).bind (fun hp' => ab_X rom K cX9_done 7 1 93 ls st hp') := ax_putfield dX9_done_90 kf_7_84 rfl (Or.inl rfl) rfl
theorem dX9_done_93 : decode cX9_done 93 = .ok (.iload_n 1, 1) := by decide +kernel
theorem sX9_done_93 : ab_X rom K cX9_done 7 1 93 (v0 :: .int x :: ls) st hp = ab_X rom K cX9_done 7 1 94 (v0 :: .int x :: ls) (.int x :: st) hp := ax_iload_n dX9_done_93 rfl rfl
theorem dX9_done_94 : decode cX9_done 94 = .ok (.ireturn, 1) := by decide +kernel
theorem sX9_done_94 : ab_X rom K cX9_done 7 1 94 ls [.int x] hp = some (some (.int x), hp) := ax_iret dX9_done_94 rfl
theorem tX9_doubles : ab_mT[145]? = some (yX9_doubles, cX9_doubles, 6, 1, 7) := by decide +kernel
theorem mX9_doubles {d : Nat} {a0 : Nat} {x0 : Int32} : ab_M rom (d + 1) 145 [.ref a0, .int x0] hp = ab_X rom (ab_M rom d) cX9_doubles 7 1 0 [.ref a0, .int x0, .null, .null, .null, .null] [] hp := ab_M_eq tX9_doubles (Nat.le_of_ble_eq_true rfl)
theorem dX9_doubles_0 : decode cX9_doubles 0 = .ok (.iconst 0, 1) := by decide +kernel
theorem sX9_doubles_0 : ab_X rom K cX9_doubles 7 1 0 ls st hp = ab_X rom K cX9_doubles 7 1 1 ls (.int 0 :: st) hp := ax_iconst dX9_doubles_0 (by decide) rfl
theorem dX9_doubles_1 : decode cX9_doubles 1 = .ok (.istore_n 2, 1) := by decide +kernel
theorem sX9_doubles_1i : ab_X rom K cX9_doubles 7 1 1 (v0 :: .int y :: v2 :: ls) (.int x :: st) hp = ab_X rom K cX9_doubles 7 1 2 (v0 :: .int y :: .int x :: ls) st hp := ax_istore_n dX9_doubles_1 (ax_lt (v := v2) rfl) (ab_nl_c1 (j := 1) (v := .int y) rfl (ab_c1_int _)) rfl rfl
theorem sX9_doubles_1r : ab_X rom K cX9_doubles 7 1 1 (v0 :: .ref a2 :: v2 :: ls) (.int x :: st) hp = ab_X rom K cX9_doubles 7 1 2 (v0 :: .ref a2 :: .int x :: ls) st hp := ax_istore_n dX9_doubles_1 (ax_lt (v := v2) rfl) (ab_nl_c1 (j := 1) (v := .ref a2) rfl (ab_c1_ref _)) rfl rfl
theorem sX9_doubles_1n : ab_X rom K cX9_doubles 7 1 1 (v0 :: .null :: v2 :: ls) (.int x :: st) hp = ab_X rom K cX9_doubles 7 1 2 (v0 :: .null :: .int x :: ls) st hp := ax_istore_n dX9_doubles_1 (ax_lt (v := v2) rfl) (ab_nl_c1 (j := 1) (v := .null) rfl ab_c1_null) rfl rfl
theorem dX9_doubles_2 : decode cX9_doubles 2 = .ok (.iconst 0, 1) := by decide +kernel
theorem sX9_doubles_2 : ab_X rom K cX9_doubles 7 1 2 ls st hp = ab_X rom K cX9_doubles 7 1 3 ls (.int 0 :: st) hp := ax_iconst dX9_doubles_2 (by decide) rfl
theorem dX9_doubles_3 : decode cX9_doubles 3 = .ok (.istore_n 3, 1) := by decide +kernel
theorem sX9_doubles_3i : ab_X rom K cX9_doubles 7 1 3 (v0 :: v1 :: .int y :: v3 :: ls) (.int x :: st) hp = ab_X rom K cX9_doubles 7 1 4 (v0 :: v1 :: .int y :: .int x :: ls) st hp := ax_istore_n dX9_doubles_3 (ax_lt (v := v3) rfl) (ab_nl_c1 (j := 2) (v := .int y) rfl (ab_c1_int _)) rfl rfl
theorem sX9_doubles_3r : ab_X rom K cX9_doubles 7 1 3 (v0 :: v1 :: .ref a2 :: v3 :: ls) (.int x :: st) hp = ab_X rom K cX9_doubles 7 1 4 (v0 :: v1 :: .ref a2 :: .int x :: ls) st hp := ax_istore_n dX9_doubles_3 (ax_lt (v := v3) rfl) (ab_nl_c1 (j := 2) (v := .ref a2) rfl (ab_c1_ref _)) rfl rfl
theorem sX9_doubles_3n : ab_X rom K cX9_doubles 7 1 3 (v0 :: v1 :: .null :: v3 :: ls) (.int x :: st) hp = ab_X rom K cX9_doubles 7 1 4 (v0 :: v1 :: .null :: .int x :: ls) st hp := ax_istore_n dX9_doubles_3 (ax_lt (v := v3) rfl) (ab_nl_c1 (j := 2) (v := .null) rfl ab_c1_null) rfl rfl
theorem dX9_doubles_4 : decode cX9_doubles 4 = .ok (.iload_n 3, 1) := by decide +kernel
theorem sX9_doubles_4 : ab_X rom K cX9_doubles 7 1 4 (v0 :: v1 :: v2 :: .int x :: ls) st hp = ab_X rom K cX9_doubles 7 1 5 (v0 :: v1 :: v2 :: .int x :: ls) (.int x :: st) hp := ax_iload_n dX9_doubles_4 rfl rfl
theorem dX9_doubles_5 : decode cX9_doubles 5 = .ok (.iload_n 1, 1) := by decide +kernel
theorem sX9_doubles_5 : ab_X rom K cX9_doubles 7 1 5 (v0 :: .int x :: ls) st hp = ab_X rom K cX9_doubles 7 1 6 (v0 :: .int x :: ls) (.int x :: st) hp := ax_iload_n dX9_doubles_5 rfl rfl
theorem dX9_doubles_6 : decode cX9_doubles 6 = .ok (.if_icmp .ge 68, 3) := by decide +kernel
theorem sX9_doubles_6 : ab_X rom K cX9_doubles 7 1 6 ls (.int y :: .int x :: st) hp = if x < y then ab_X rom K cX9_doubles 7 1 9 ls st hp else ab_X rom K cX9_doubles 7 1 74 ls st hp := ax_icmp_ge dX9_doubles_6 (by decide) rfl
theorem dX9_doubles_9 : decode cX9_doubles 9 = .ok (.iconst 0, 1) := by decide +kernel
theorem sX9_doubles_9 : ab_X rom K cX9_doubles 7 1 9 ls st hp = ab_X rom K cX9_doubles 7 1 10 ls (.int 0 :: st) hp := ax_iconst dX9_doubles_9 (by decide) rfl
theorem dX9_doubles_10 : decode cX9_doubles 10 = .ok (.istore 4, 2) := by decide +kernel
theorem sX9_doubles_10i : ab_X rom K cX9_doubles 7 1 10 (v0 :: v1 :: v2 :: .int y :: v4 :: ls) (.int x :: st) hp = ab_X rom K cX9_doubles 7 1 12 (v0 :: v1 :: v2 :: .int y :: .int x :: ls) st hp := ax_istore dX9_doubles_10 (ax_lt (v := v4) rfl) (ab_nl_c1 (j := 3) (v := .int y) rfl (ab_c1_int _)) rfl rfl
theorem sX9_doubles_10r : ab_X rom K cX9_doubles 7 1 10 (v0 :: v1 :: v2 :: .ref a2 :: v4 :: ls) (.int x :: st) hp = ab_X rom K cX9_doubles 7 1 12 (v0 :: v1 :: v2 :: .ref a2 :: .int x :: ls) st hp := ax_istore dX9_doubles_10 (ax_lt (v := v4) rfl) (ab_nl_c1 (j := 3) (v := .ref a2) rfl (ab_c1_ref _)) rfl rfl
theorem sX9_doubles_10n : ab_X rom K cX9_doubles 7 1 10 (v0 :: v1 :: v2 :: .null :: v4 :: ls) (.int x :: st) hp = ab_X rom K cX9_doubles 7 1 12 (v0 :: v1 :: v2 :: .null :: .int x :: ls) st hp := ax_istore dX9_doubles_10 (ax_lt (v := v4) rfl) (ab_nl_c1 (j := 3) (v := .null) rfl ab_c1_null) rfl rfl
theorem dX9_doubles_12 : decode cX9_doubles 12 = .ok (.iconst 0, 1) := by decide +kernel
theorem sX9_doubles_12 : ab_X rom K cX9_doubles 7 1 12 ls st hp = ab_X rom K cX9_doubles 7 1 13 ls (.int 0 :: st) hp := ax_iconst dX9_doubles_12 (by decide) rfl
theorem dX9_doubles_13 : decode cX9_doubles 13 = .ok (.istore 5, 2) := by decide +kernel
theorem sX9_doubles_13i : ab_X rom K cX9_doubles 7 1 13 (v0 :: v1 :: v2 :: v3 :: .int y :: v5 :: ls) (.int x :: st) hp = ab_X rom K cX9_doubles 7 1 15 (v0 :: v1 :: v2 :: v3 :: .int y :: .int x :: ls) st hp := ax_istore dX9_doubles_13 (ax_lt (v := v5) rfl) (ab_nl_c1 (j := 4) (v := .int y) rfl (ab_c1_int _)) rfl rfl
theorem sX9_doubles_13r : ab_X rom K cX9_doubles 7 1 13 (v0 :: v1 :: v2 :: v3 :: .ref a2 :: v5 :: ls) (.int x :: st) hp = ab_X rom K cX9_doubles 7 1 15 (v0 :: v1 :: v2 :: v3 :: .ref a2 :: .int x :: ls) st hp := ax_istore dX9_doubles_13 (ax_lt (v := v5) rfl) (ab_nl_c1 (j := 4) (v := .ref a2) rfl (ab_c1_ref _)) rfl rfl
theorem sX9_doubles_13n : ab_X rom K cX9_doubles 7 1 13 (v0 :: v1 :: v2 :: v3 :: .null :: v5 :: ls) (.int x :: st) hp = ab_X rom K cX9_doubles 7 1 15 (v0 :: v1 :: v2 :: v3 :: .null :: .int x :: ls) st hp := ax_istore dX9_doubles_13 (ax_lt (v := v5) rfl) (ab_nl_c1 (j := 4) (v := .null) rfl ab_c1_null) rfl rfl
theorem dX9_doubles_15 : decode cX9_doubles 15 = .ok (.iload 5, 2) := by decide +kernel
theorem sX9_doubles_15 : ab_X rom K cX9_doubles 7 1 15 (v0 :: v1 :: v2 :: v3 :: v4 :: .int x :: ls) st hp = ab_X rom K cX9_doubles 7 1 17 (v0 :: v1 :: v2 :: v3 :: v4 :: .int x :: ls) (.int x :: st) hp := ax_iload dX9_doubles_15 rfl rfl
theorem dX9_doubles_17 : decode cX9_doubles 17 = .ok (.iload_n 3, 1) := by decide +kernel
theorem sX9_doubles_17 : ab_X rom K cX9_doubles 7 1 17 (v0 :: v1 :: v2 :: .int x :: ls) st hp = ab_X rom K cX9_doubles 7 1 18 (v0 :: v1 :: v2 :: .int x :: ls) (.int x :: st) hp := ax_iload_n dX9_doubles_17 rfl rfl
theorem dX9_doubles_18 : decode cX9_doubles 18 = .ok (.if_icmp .ge 37, 3) := by decide +kernel
theorem sX9_doubles_18 : ab_X rom K cX9_doubles 7 1 18 ls (.int y :: .int x :: st) hp = if x < y then ab_X rom K cX9_doubles 7 1 21 ls st hp else ab_X rom K cX9_doubles 7 1 55 ls st hp := ax_icmp_ge dX9_doubles_18 (by decide) rfl
theorem dX9_doubles_21 : decode cX9_doubles 21 = .ok (.iload 4, 2) := by decide +kernel
theorem sX9_doubles_21 : ab_X rom K cX9_doubles 7 1 21 (v0 :: v1 :: v2 :: v3 :: .int x :: ls) st hp = ab_X rom K cX9_doubles 7 1 23 (v0 :: v1 :: v2 :: v3 :: .int x :: ls) (.int x :: st) hp := ax_iload dX9_doubles_21 rfl rfl
theorem dX9_doubles_23 : decode cX9_doubles 23 = .ok (.ifCond .ne 19, 3) := by decide +kernel
theorem sX9_doubles_23 : ab_X rom K cX9_doubles 7 1 23 ls (.int x :: st) hp = if x = 0 then ab_X rom K cX9_doubles 7 1 26 ls st hp else ab_X rom K cX9_doubles 7 1 42 ls st hp := ax_if_ne dX9_doubles_23 (by decide) rfl
theorem dX9_doubles_26 : decode cX9_doubles 26 = .ok (.aload_n 0, 1) := by decide +kernel
theorem sX9_doubles_26 : ab_X rom K cX9_doubles 7 1 26 (.ref a :: ls) st hp = ab_X rom K cX9_doubles 7 1 27 (.ref a :: ls) (.ref a :: st) hp := ax_aload_n dX9_doubles_26 rfl rfl
theorem dX9_doubles_27 : decode cX9_doubles 27 = .ok (.getfield 32, 3) := by decide +kernel
theorem sX9_doubles_27 : ab_X rom K cX9_doubles 7 1 27 ls (.ref a :: st) hp = (ab_fld hp a 7 16).bind (fun v => ab_X rom K cX9_doubles 7 1 30 ls (v :: st) hp) := ax_getfield dX9_doubles_27 kf_7_32 rfl
theorem dX9_doubles_30 : decode cX9_doubles 30 = .ok (.iload 5, 2) := by decide +kernel
theorem sX9_doubles_30 : ab_X rom K cX9_doubles 7 1 30 (v0 :: v1 :: v2 :: v3 :: v4 :: .int x :: ls) st hp = ab_X rom K cX9_doubles 7 1 32 (v0 :: v1 :: v2 :: v3 :: v4 :: .int x :: ls) (.int x :: st) hp := ax_iload dX9_doubles_30 rfl rfl
theorem dX9_doubles_32 : decode cX9_doubles 32 = .ok (.iaload, 1) := by decide +kernel
theorem sX9_doubles_32 : ab_X rom K cX9_doubles 7 1 32 ls (.int x :: .ref a :: st) hp = (ab_ard rom 0 hp a x).bind (fun v => ab_X rom K cX9_doubles 7 1 33 ls (.int v :: st) hp) := ax_iaload dX9_doubles_32 rfl
theorem dX9_doubles_33 : decode cX9_doubles 33 = .ok (.aload_n 0, 1) := by decide +kernel
theorem sX9_doubles_33 : ab_X rom K cX9_doubles 7 1 33 (.ref a :: ls) st hp = ab_X rom K cX9_doubles 7 1 34 (.ref a :: ls) (.ref a :: st) hp := ax_aload_n dX9_doubles_33 rfl rfl
theorem dX9_doubles_34 : decode cX9_doubles 34 = .ok (.getfield 32, 3) := by decide +kernel
theorem sX9_doubles_34 : ab_X rom K cX9_doubles 7 1 34 ls (.ref a :: st) hp = (ab_fld hp a 7 16).bind (fun v => ab_X rom K cX9_doubles 7 1 37 ls (v :: st) hp) := ax_getfield dX9_doubles_34 kf_7_32 rfl
theorem dX9_doubles_37 : decode cX9_doubles 37 = .ok (.iload_n 3, 1) := by decide +kernel
theorem sX9_doubles_37 : ab_X rom K cX9_doubles 7 1 37 (v0 :: v1 :: v2 :: .int x :: ls) st hp = ab_X rom K cX9_doubles 7 1 38 (v0 :: v1 :: v2 :: .int x :: ls) (.int x :: st) hp := ax_iload_n dX9_doubles_37 rfl rfl
theorem dX9_doubles_38 : decode cX9_doubles 38 = .ok (.iaload, 1) := by decide +kernel
theorem sX9_doubles_38 : ab_X rom K cX9_doubles 7 1 38 ls (.int x :: .ref a :: st) hp = (ab_ard rom 0 hp a x).bind (fun v => ab_X rom K cX9_doubles 7 1 39 ls (.int v :: st) hp) := ax_iaload dX9_doubles_38 rfl
theorem dX9_doubles_39 : decode cX9_doubles 39 = .ok (.if_icmp .ne 7, 3) := by decide +kernel
theorem sX9_doubles_39 : ab_X rom K cX9_doubles 7 1 39 ls (.int y :: .int x :: st) hp = if x = y then ab_X rom K cX9_doubles 7 1 42 ls st hp else ab_X rom K cX9_doubles 7 1 46 ls st hp := ax_icmp_ne dX9_doubles_39 (by decide) rfl
theorem dX9_doubles_42 : decode cX9_doubles 42 = .ok (.iconst 1, 1) := by decide +kernel
theorem sX9_doubles_42 : ab_X rom K cX9_doubles 7 1 42 ls st hp = ab_X rom K cX9_doubles 7 1 43 ls (.int 1 :: st) hp := ax_iconst dX9_doubles_42 (by decide) rfl
theorem dX9_doubles_43 : decode cX9_doubles 43 = .ok (.goto 4, 3) := by decide +kernel
theorem sX9_doubles_43 : ab_X rom K cX9_doubles 7 1 43 ls st hp = ab_X rom K cX9_doubles 7 1 47 ls st hp := ax_goto dX9_doubles_43 (by decide)
theorem dX9_doubles_46 : decode cX9_doubles 46 = .ok (.iconst 0, 1) := by decide +kernel
theorem sX9_doubles_46 : ab_X rom K cX9_doubles 7 1 46 ls st hp = ab_X rom K cX9_doubles 7 1 47 ls (.int 0 :: st) hp := ax_iconst dX9_doubles_46 (by decide) rfl
theorem dX9_doubles_47 : decode cX9_doubles 47 = .ok (.istore 4, 2) := by decide +kernel
theorem sX9_doubles_47i : ab_X rom K cX9_doubles 7 1 47 (v0 :: v1 :: v2 :: .int y :: v4 :: ls) (.int x :: st) hp = ab_X rom K cX9_doubles 7 1 49 (v0 :: v1 :: v2 :: .int y :: .int x :: ls) st hp := ax_istore dX9_doubles_47 (ax_lt (v := v4) rfl) (ab_nl_c1 (j := 3) (v := .int y) rfl (ab_c1_int _)) rfl rfl
theorem sX9_doubles_47r : ab_X rom K cX9_doubles 7 1 47 (v0 :: v1 :: v2 :: .ref a2 :: v4 :: ls) (.int x :: st) hp = ab_X rom K cX9_doubles 7 1 49 (v0 :: v1 :: v2 :: .ref a2 :: .int x :: ls) st hp := ax_istore dX9_doubles_47 (ax_lt (v := v4) rfl) (ab_nl_c1 (j := 3) (v := .ref a2) rfl (ab_c1_ref _)) rfl rfl
theorem sX9_doubles_47n : ab_X rom K cX9_doubles 7 1 47 (v0 :: v1 :: v2 :: .null :: v4 :: ls) (.int x :: st) hp = ab_X rom K cX9_doubles 7 1 49 (v0 :: v1 :: v2 :: .null :: .int x :: ls) st hp := ax_istore dX9_doubles_47 (ax_lt (v := v4) rfl) (ab_nl_c1 (j := 3) (v := .null) rfl ab_c1_null) rfl rfl
theorem dX9_doubles_49 : decode cX9_doubles 49 = .ok (.iinc 5 1, 3) := by decide +kernel
theorem sX9_doubles_49i : ab_X rom K cX9_doubles 7 1 49 (v0 :: v1 :: v2 :: v3 :: .int y :: .int x :: ls) st hp = ab_X rom K cX9_doubles 7 1 52 (v0 :: v1 :: v2 :: v3 :: .int y :: .int (x + 1) :: ls) st hp := ax_iinc dX9_doubles_49 rfl (ab_nl_c1 (j := 4) (v := .int y) rfl (ab_c1_int _)) (by decide) rfl rfl
theorem sX9_doubles_49r : ab_X rom K cX9_doubles 7 1 49 (v0 :: v1 :: v2 :: v3 :: .ref a2 :: .int x :: ls) st hp = ab_X rom K cX9_doubles 7 1 52 (v0 :: v1 :: v2 :: v3 :: .ref a2 :: .int (x + 1) :: ls) st hp := ax_iinc dX9_doubles_49 rfl (ab_nl_c1 (j := 4) (v := .ref a2) rfl (ab_c1_ref _)) (by decide) rfl rfl
theorem sX9_doubles_49n : ab_X rom K cX9_doubles 7 1 49 (v0 :: v1 :: v2 :: v3 :: .null :: .int x :: ls) st hp = ab_X rom K cX9_doubles 7 1 52 (v0 :: v1 :: v2 :: v3 :: .null :: .int (x + 1) :: ls) st hp := ax_iinc dX9_doubles_49 rfl (ab_nl_c1 (j := 4) (v := .null) rfl ab_c1_null) (by decide) rfl rfl
theorem dX9_doubles_52 : decode cX9_doubles 52 = .ok (.goto (-37), 3) := by decide +kernel
theorem sX9_doubles_52 : ab_X rom K cX9_doubles 7 1 52 ls st hp = ab_X rom K cX9_doubles 7 1 15 ls st hp := ax_goto dX9_doubles_52 (by decide)
theorem dX9_doubles_55 : decode cX9_doubles 55 = .ok (.iload_n 2, 1) := by decide +kernel
theorem sX9_doubles_55 : ab_X rom K cX9_doubles 7 1 55 (v0 :: v1 :: .int x :: ls) st hp = ab_X rom K cX9_doubles 7 1 56 (v0 :: v1 :: .int x :: ls) (.int x :: st) hp := ax_iload_n dX9_doubles_55 rfl rfl
theorem dX9_doubles_56 : decode cX9_doubles 56 = .ok (.iload 4, 2) := by decide +kernel
theorem sX9_doubles_56 : ab_X rom K cX9_doubles 7 1 56 (v0 :: v1 :: v2 :: v3 :: .int x :: ls) st hp = ab_X rom K cX9_doubles 7 1 58 (v0 :: v1 :: v2 :: v3 :: .int x :: ls) (.int x :: st) hp := ax_iload dX9_doubles_56 rfl rfl
theorem dX9_doubles_58 : decode cX9_doubles 58 = .ok (.ifCond .eq 7, 3) := by decide +kernel
theorem sX9_doubles_58 : ab_X rom K cX9_doubles 7 1 58 ls (.int x :: st) hp = if x = 0 then ab_X rom K cX9_doubles 7 1 65 ls st hp else ab_X rom K cX9_doubles 7 1 61 ls st hp := ax_if_eq dX9_doubles_58 (by decide) rfl
theorem dX9_doubles_61 : decode cX9_doubles 61 = .ok (.iconst 1, 1) := by decide +kernel
theorem sX9_doubles_61 : ab_X rom K cX9_doubles 7 1 61 ls st hp = ab_X rom K cX9_doubles 7 1 62 ls (.int 1 :: st) hp := ax_iconst dX9_doubles_61 (by decide) rfl
theorem dX9_doubles_62 : decode cX9_doubles 62 = .ok (.goto 4, 3) := by decide +kernel
theorem sX9_doubles_62 : ab_X rom K cX9_doubles 7 1 62 ls st hp = ab_X rom K cX9_doubles 7 1 66 ls st hp := ax_goto dX9_doubles_62 (by decide)
theorem dX9_doubles_65 : decode cX9_doubles 65 = .ok (.iconst 0, 1) := by decide +kernel
theorem sX9_doubles_65 : ab_X rom K cX9_doubles 7 1 65 ls st hp = ab_X rom K cX9_doubles 7 1 66 ls (.int 0 :: st) hp := ax_iconst dX9_doubles_65 (by decide) rfl
theorem dX9_doubles_66 : decode cX9_doubles 66 = .ok (.iadd, 1) := by decide +kernel
theorem sX9_doubles_66 : ab_X rom K cX9_doubles 7 1 66 ls (.int y :: .int x :: st) hp = ab_X rom K cX9_doubles 7 1 67 ls (.int (x + y) :: st) hp := ax_iadd dX9_doubles_66 rfl
theorem dX9_doubles_67 : decode cX9_doubles 67 = .ok (.istore_n 2, 1) := by decide +kernel
theorem sX9_doubles_67i : ab_X rom K cX9_doubles 7 1 67 (v0 :: .int y :: v2 :: ls) (.int x :: st) hp = ab_X rom K cX9_doubles 7 1 68 (v0 :: .int y :: .int x :: ls) st hp := ax_istore_n dX9_doubles_67 (ax_lt (v := v2) rfl) (ab_nl_c1 (j := 1) (v := .int y) rfl (ab_c1_int _)) rfl rfl
theorem sX9_doubles_67r : ab_X rom K cX9_doubles 7 1 67 (v0 :: .ref a2 :: v2 :: ls) (.int x :: st) hp = ab_X rom K cX9_doubles 7 1 68 (v0 :: .ref a2 :: .int x :: ls) st hp := ax_istore_n dX9_doubles_67 (ax_lt (v := v2) rfl) (ab_nl_c1 (j := 1) (v := .ref a2) rfl (ab_c1_ref _)) rfl rfl
theorem sX9_doubles_67n : ab_X rom K cX9_doubles 7 1 67 (v0 :: .null :: v2 :: ls) (.int x :: st) hp = ab_X rom K cX9_doubles 7 1 68 (v0 :: .null :: .int x :: ls) st hp := ax_istore_n dX9_doubles_67 (ax_lt (v := v2) rfl) (ab_nl_c1 (j := 1) (v := .null) rfl ab_c1_null) rfl rfl
theorem dX9_doubles_68 : decode cX9_doubles 68 = .ok (.iinc 3 1, 3) := by decide +kernel
theorem sX9_doubles_68i : ab_X rom K cX9_doubles 7 1 68 (v0 :: v1 :: .int y :: .int x :: ls) st hp = ab_X rom K cX9_doubles 7 1 71 (v0 :: v1 :: .int y :: .int (x + 1) :: ls) st hp := ax_iinc dX9_doubles_68 rfl (ab_nl_c1 (j := 2) (v := .int y) rfl (ab_c1_int _)) (by decide) rfl rfl
theorem sX9_doubles_68r : ab_X rom K cX9_doubles 7 1 68 (v0 :: v1 :: .ref a2 :: .int x :: ls) st hp = ab_X rom K cX9_doubles 7 1 71 (v0 :: v1 :: .ref a2 :: .int (x + 1) :: ls) st hp := ax_iinc dX9_doubles_68 rfl (ab_nl_c1 (j := 2) (v := .ref a2) rfl (ab_c1_ref _)) (by decide) rfl rfl
theorem sX9_doubles_68n : ab_X rom K cX9_doubles 7 1 68 (v0 :: v1 :: .null :: .int x :: ls) st hp = ab_X rom K cX9_doubles 7 1 71 (v0 :: v1 :: .null :: .int (x + 1) :: ls) st hp := ax_iinc dX9_doubles_68 rfl (ab_nl_c1 (j := 2) (v := .null) rfl ab_c1_null) (by decide) rfl rfl
theorem dX9_doubles_71 : decode cX9_doubles 71 = .ok (.goto (-67), 3) := by decide +kernel
theorem sX9_doubles_71 : ab_X rom K cX9_doubles 7 1 71 ls st hp = ab_X rom K cX9_doubles 7 1 4 ls st hp := ax_goto dX9_doubles_71 (by decide)
theorem dX9_doubles_74 : decode cX9_doubles 74 = .ok (.iload_n 2, 1) := by decide +kernel
theorem sX9_doubles_74 : ab_X rom K cX9_doubles 7 1 74 (v0 :: v1 :: .int x :: ls) st hp = ab_X rom K cX9_doubles 7 1 75 (v0 :: v1 :: .int x :: ls) (.int x :: st) hp := ax_iload_n dX9_doubles_74 rfl rfl
theorem dX9_doubles_75 : decode cX9_doubles 75 = .ok (.ireturn, 1) := by decide +kernel
theorem sX9_doubles_75 : ab_X rom K cX9_doubles 7 1 75 ls [.int x] hp = some (some (.int x), hp) := ax_iret dX9_doubles_75 rfl
theorem tX9_drops : ab_mT[146]? = some (yX9_drops, cX9_drops, 2, 1, 7) := by decide +kernel
theorem mX9_drops {d : Nat} {a0 : Nat} {x0 : Int32} : ab_M rom (d + 1) 146 [.ref a0, .int x0] hp = ab_X rom (ab_M rom d) cX9_drops 7 1 0 [.ref a0, .int x0] [] hp := ab_M_eq tX9_drops (Nat.le_of_ble_eq_true rfl)
theorem dX9_drops_0 : decode cX9_drops 0 = .ok (.iload_n 1, 1) := by decide +kernel
theorem sX9_drops_0 : ab_X rom K cX9_drops 7 1 0 (v0 :: .int x :: ls) st hp = ab_X rom K cX9_drops 7 1 1 (v0 :: .int x :: ls) (.int x :: st) hp := ax_iload_n dX9_drops_0 rfl rfl
theorem dX9_drops_1 : decode cX9_drops 1 = .ok (.invokestatic 60, 3) := by decide +kernel
theorem sX9_drops_1_0 : ab_X rom K cX9_drops 7 1 1 ls [w1] hp = (K 175 [w1] hp).bind (fun o => ab_X rom K cX9_drops 7 1 4 ls (o.1.toList ++ []) o.2) := ax_static (as := [w1]) (st := []) dX9_drops_1 kc_7_60 rfl rfl (Nat.le_of_ble_eq_true rfl)
theorem sX9_drops_1_1 : ab_X rom K cX9_drops 7 1 1 ls [w1, v0] hp = (K 175 [w1] hp).bind (fun o => ab_X rom K cX9_drops 7 1 4 ls (o.1.toList ++ [v0]) o.2) := ax_static (as := [w1]) (st := [v0]) dX9_drops_1 kc_7_60 rfl rfl (Nat.le_of_ble_eq_true rfl)
theorem sX9_drops_1_2 : ab_X rom K cX9_drops 7 1 1 ls [w1, v0, v1] hp = (K 175 [w1] hp).bind (fun o => ab_X rom K cX9_drops 7 1 4 ls (o.1.toList ++ [v0, v1]) o.2) := ax_static (as := [w1]) (st := [v0, v1]) dX9_drops_1 kc_7_60 rfl rfl (Nat.le_of_ble_eq_true rfl)
theorem sX9_drops_1_3 : ab_X rom K cX9_drops 7 1 1 ls [w1, v0, v1, v2] hp = (K 175 [w1] hp).bind (fun o => ab_X rom K cX9_drops 7 1 4 ls (o.1.toList ++ [v0, v1, v2]) o.2) := ax_static (as := [w1]) (st := [v0, v1, v2]) dX9_drops_1 kc_7_60 rfl rfl (Nat.le_of_ble_eq_true rfl)
theorem dX9_drops_4 : decode cX9_drops 4 = .ok (.ifCond .ne 6, 3) := by decide +kernel
theorem sX9_drops_4 : ab_X rom K cX9_drops 7 1 4 ls (.int x :: st) hp = if x = 0 then ab_X rom K cX9_drops 7 1 7 ls st hp else ab_X rom K cX9_drops 7 1 10 ls st hp := ax_if_ne dX9_drops_4 (by decide) rfl
theorem dX9_drops_7 : decode cX9_drops 7 = .ok (.bipush (-2), 2) := by decide +kernel
theorem sX9_drops_7 : ab_X rom K cX9_drops 7 1 7 ls st hp = ab_X rom K cX9_drops 7 1 9 ls (.int (-2) :: st) hp := ax_bipush dX9_drops_7 (by decide) rfl
theorem dX9_drops_9 : decode cX9_drops 9 = .ok (.ireturn, 1) := by decide +kernel
theorem sX9_drops_9 : ab_X rom K cX9_drops 7 1 9 ls [.int x] hp = some (some (.int x), hp) := ax_iret dX9_drops_9 rfl
theorem dX9_drops_10 : decode cX9_drops 10 = .ok (.aload_n 0, 1) := by decide +kernel
theorem sX9_drops_10 : ab_X rom K cX9_drops 7 1 10 (.ref a :: ls) st hp = ab_X rom K cX9_drops 7 1 11 (.ref a :: ls) (.ref a :: st) hp := ax_aload_n dX9_drops_10 rfl rfl
theorem dX9_drops_11 : decode cX9_drops 11 = .ok (.iload_n 1, 1) := by decide +kernel
theorem sX9_drops_11 : ab_X rom K cX9_drops 7 1 11 (v0 :: .int x :: ls) st hp = ab_X rom K cX9_drops 7 1 12 (v0 :: .int x :: ls) (.int x :: st) hp := ax_iload_n dX9_drops_11 rfl rfl
theorem dX9_drops_12 : decode cX9_drops 12 = .ok (.invokevirtual 64, 3) := by decide +kernel
theorem sX9_drops_12_0 : ab_X rom K cX9_drops 7 1 12 ls [w1, .ref a] hp = if ab_iso hp a 7 = true then (K 209 (.ref a :: [w1]) hp).bind (fun o => ab_X rom K cX9_drops 7 1 15 ls (o.1.toList ++ []) o.2) else none := ay_virtual (as := [w1]) (st := []) dX9_drops_12 kc_7_64 rfl rfl (Nat.le_of_ble_eq_true rfl)
theorem sX9_drops_12_1 : ab_X rom K cX9_drops 7 1 12 ls [w1, .ref a, v0] hp = if ab_iso hp a 7 = true then (K 209 (.ref a :: [w1]) hp).bind (fun o => ab_X rom K cX9_drops 7 1 15 ls (o.1.toList ++ [v0]) o.2) else none := ay_virtual (as := [w1]) (st := [v0]) dX9_drops_12 kc_7_64 rfl rfl (Nat.le_of_ble_eq_true rfl)
theorem sX9_drops_12_2 : ab_X rom K cX9_drops 7 1 12 ls [w1, .ref a, v0, v1] hp = if ab_iso hp a 7 = true then (K 209 (.ref a :: [w1]) hp).bind (fun o => ab_X rom K cX9_drops 7 1 15 ls (o.1.toList ++ [v0, v1]) o.2) else none := ay_virtual (as := [w1]) (st := [v0, v1]) dX9_drops_12 kc_7_64 rfl rfl (Nat.le_of_ble_eq_true rfl)
theorem sX9_drops_12_3 : ab_X rom K cX9_drops 7 1 12 ls [w1, .ref a, v0, v1, v2] hp = if ab_iso hp a 7 = true then (K 209 (.ref a :: [w1]) hp).bind (fun o => ab_X rom K cX9_drops 7 1 15 ls (o.1.toList ++ [v0, v1, v2]) o.2) else none := ay_virtual (as := [w1]) (st := [v0, v1, v2]) dX9_drops_12 kc_7_64 rfl rfl (Nat.le_of_ble_eq_true rfl)
theorem dX9_drops_15 : decode cX9_drops 15 = .ok (.ifCond .ne 5, 3) := by decide +kernel
theorem sX9_drops_15 : ab_X rom K cX9_drops 7 1 15 ls (.int x :: st) hp = if x = 0 then ab_X rom K cX9_drops 7 1 18 ls st hp else ab_X rom K cX9_drops 7 1 20 ls st hp := ax_if_ne dX9_drops_15 (by decide) rfl
theorem dX9_drops_18 : decode cX9_drops 18 = .ok (.iconst 0, 1) := by decide +kernel
theorem sX9_drops_18 : ab_X rom K cX9_drops 7 1 18 ls st hp = ab_X rom K cX9_drops 7 1 19 ls (.int 0 :: st) hp := ax_iconst dX9_drops_18 (by decide) rfl
theorem dX9_drops_19 : decode cX9_drops 19 = .ok (.ireturn, 1) := by decide +kernel
theorem sX9_drops_19 : ab_X rom K cX9_drops 7 1 19 ls [.int x] hp = some (some (.int x), hp) := ax_iret dX9_drops_19 rfl
theorem dX9_drops_20 : decode cX9_drops 20 = .ok (.aload_n 0, 1) := by decide +kernel
theorem sX9_drops_20 : ab_X rom K cX9_drops 7 1 20 (.ref a :: ls) st hp = ab_X rom K cX9_drops 7 1 21 (.ref a :: ls) (.ref a :: st) hp := ax_aload_n dX9_drops_20 rfl rfl
theorem dX9_drops_21 : decode cX9_drops 21 = .ok (.invokevirtual 87, 3) := by decide +kernel
theorem sX9_drops_21_0 : ab_X rom K cX9_drops 7 1 21 ls [.ref a] hp = if ab_iso hp a 7 = true then (K 214 (.ref a :: []) hp).bind (fun o => ab_X rom K cX9_drops 7 1 24 ls (o.1.toList ++ []) o.2) else none := ay_virtual (as := []) (st := []) dX9_drops_21 kc_7_87 rfl rfl (Nat.le_of_ble_eq_true rfl)
theorem sX9_drops_21_1 : ab_X rom K cX9_drops 7 1 21 ls [.ref a, v0] hp = if ab_iso hp a 7 = true then (K 214 (.ref a :: []) hp).bind (fun o => ab_X rom K cX9_drops 7 1 24 ls (o.1.toList ++ [v0]) o.2) else none := ay_virtual (as := []) (st := [v0]) dX9_drops_21 kc_7_87 rfl rfl (Nat.le_of_ble_eq_true rfl)
theorem sX9_drops_21_2 : ab_X rom K cX9_drops 7 1 21 ls [.ref a, v0, v1] hp = if ab_iso hp a 7 = true then (K 214 (.ref a :: []) hp).bind (fun o => ab_X rom K cX9_drops 7 1 24 ls (o.1.toList ++ [v0, v1]) o.2) else none := ay_virtual (as := []) (st := [v0, v1]) dX9_drops_21 kc_7_87 rfl rfl (Nat.le_of_ble_eq_true rfl)
theorem sX9_drops_21_3 : ab_X rom K cX9_drops 7 1 21 ls [.ref a, v0, v1, v2] hp = if ab_iso hp a 7 = true then (K 214 (.ref a :: []) hp).bind (fun o => ab_X rom K cX9_drops 7 1 24 ls (o.1.toList ++ [v0, v1, v2]) o.2) else none := ay_virtual (as := []) (st := [v0, v1, v2]) dX9_drops_21 kc_7_87 rfl rfl (Nat.le_of_ble_eq_true rfl)
theorem dX9_drops_24 : decode cX9_drops 24 = .ok (.aload_n 0, 1) := by decide +kernel
theorem sX9_drops_24 : ab_X rom K cX9_drops 7 1 24 (.ref a :: ls) st hp = ab_X rom K cX9_drops 7 1 25 (.ref a :: ls) (.ref a :: st) hp := ax_aload_n dX9_drops_24 rfl rfl
theorem dX9_drops_25 : decode cX9_drops 25 = .ok (.iload_n 1, 1) := by decide +kernel
theorem sX9_drops_25 : ab_X rom K cX9_drops 7 1 25 (v0 :: .int x :: ls) st hp = ab_X rom K cX9_drops 7 1 26 (v0 :: .int x :: ls) (.int x :: st) hp := ax_iload_n dX9_drops_25 rfl rfl
theorem dX9_drops_26 : decode cX9_drops 26 = .ok (.iconst 0, 1) := by decide +kernel
theorem sX9_drops_26 : ab_X rom K cX9_drops 7 1 26 ls st hp = ab_X rom K cX9_drops 7 1 27 ls (.int 0 :: st) hp := ax_iconst dX9_drops_26 (by decide) rfl
theorem dX9_drops_27 : decode cX9_drops 27 = .ok (.invokevirtual 90, 3) := by decide +kernel
theorem sX9_drops_27_0 : ab_X rom K cX9_drops 7 1 27 ls [w2, w1, .ref a] hp = if ab_iso hp a 7 = true then (K 138 (.ref a :: [w1, w2]) hp).bind (fun o => ab_X rom K cX9_drops 7 1 30 ls (o.1.toList ++ []) o.2) else none := ay_virtual (as := [w1, w2]) (st := []) dX9_drops_27 kc_7_90 rfl rfl (Nat.le_of_ble_eq_true rfl)
theorem sX9_drops_27_1 : ab_X rom K cX9_drops 7 1 27 ls [w2, w1, .ref a, v0] hp = if ab_iso hp a 7 = true then (K 138 (.ref a :: [w1, w2]) hp).bind (fun o => ab_X rom K cX9_drops 7 1 30 ls (o.1.toList ++ [v0]) o.2) else none := ay_virtual (as := [w1, w2]) (st := [v0]) dX9_drops_27 kc_7_90 rfl rfl (Nat.le_of_ble_eq_true rfl)
theorem sX9_drops_27_2 : ab_X rom K cX9_drops 7 1 27 ls [w2, w1, .ref a, v0, v1] hp = if ab_iso hp a 7 = true then (K 138 (.ref a :: [w1, w2]) hp).bind (fun o => ab_X rom K cX9_drops 7 1 30 ls (o.1.toList ++ [v0, v1]) o.2) else none := ay_virtual (as := [w1, w2]) (st := [v0, v1]) dX9_drops_27 kc_7_90 rfl rfl (Nat.le_of_ble_eq_true rfl)
theorem sX9_drops_27_3 : ab_X rom K cX9_drops 7 1 27 ls [w2, w1, .ref a, v0, v1, v2] hp = if ab_iso hp a 7 = true then (K 138 (.ref a :: [w1, w2]) hp).bind (fun o => ab_X rom K cX9_drops 7 1 30 ls (o.1.toList ++ [v0, v1, v2]) o.2) else none := ay_virtual (as := [w1, w2]) (st := [v0, v1, v2]) dX9_drops_27 kc_7_90 rfl rfl (Nat.le_of_ble_eq_true rfl)
theorem dX9_drops_30 : decode cX9_drops 30 = .ok (.aload_n 0, 1) := by decide +kernel
theorem sX9_drops_30 : ab_X rom K cX9_drops 7 1 30 (.ref a :: ls) st hp = ab_X rom K cX9_drops 7 1 31 (.ref a :: ls) (.ref a :: st) hp := ax_aload_n dX9_drops_30 rfl rfl
theorem dX9_drops_31 : decode cX9_drops 31 = .ok (.iconst 1, 1) := by decide +kernel
theorem sX9_drops_31 : ab_X rom K cX9_drops 7 1 31 ls st hp = ab_X rom K cX9_drops 7 1 32 ls (.int 1 :: st) hp := ax_iconst dX9_drops_31 (by decide) rfl
theorem dX9_drops_32 : decode cX9_drops 32 = .ok (.invokevirtual 94, 3) := by decide +kernel
theorem sX9_drops_32_0 : ab_X rom K cX9_drops 7 1 32 ls [w1, .ref a] hp = if ab_iso hp a 7 = true then (K 144 (.ref a :: [w1]) hp).bind (fun o => ab_X rom K cX9_drops 7 1 35 ls (o.1.toList ++ []) o.2) else none := ay_virtual (as := [w1]) (st := []) dX9_drops_32 kc_7_94 rfl rfl (Nat.le_of_ble_eq_true rfl)
theorem sX9_drops_32_1 : ab_X rom K cX9_drops 7 1 32 ls [w1, .ref a, v0] hp = if ab_iso hp a 7 = true then (K 144 (.ref a :: [w1]) hp).bind (fun o => ab_X rom K cX9_drops 7 1 35 ls (o.1.toList ++ [v0]) o.2) else none := ay_virtual (as := [w1]) (st := [v0]) dX9_drops_32 kc_7_94 rfl rfl (Nat.le_of_ble_eq_true rfl)
theorem sX9_drops_32_2 : ab_X rom K cX9_drops 7 1 32 ls [w1, .ref a, v0, v1] hp = if ab_iso hp a 7 = true then (K 144 (.ref a :: [w1]) hp).bind (fun o => ab_X rom K cX9_drops 7 1 35 ls (o.1.toList ++ [v0, v1]) o.2) else none := ay_virtual (as := [w1]) (st := [v0, v1]) dX9_drops_32 kc_7_94 rfl rfl (Nat.le_of_ble_eq_true rfl)
theorem sX9_drops_32_3 : ab_X rom K cX9_drops 7 1 32 ls [w1, .ref a, v0, v1, v2] hp = if ab_iso hp a 7 = true then (K 144 (.ref a :: [w1]) hp).bind (fun o => ab_X rom K cX9_drops 7 1 35 ls (o.1.toList ++ [v0, v1, v2]) o.2) else none := ay_virtual (as := [w1]) (st := [v0, v1, v2]) dX9_drops_32 kc_7_94 rfl rfl (Nat.le_of_ble_eq_true rfl)
theorem dX9_drops_35 : decode cX9_drops 35 = .ok (.ireturn, 1) := by decide +kernel
theorem sX9_drops_35 : ab_X rom K cX9_drops 7 1 35 ls [.int x] hp = some (some (.int x), hp) := ax_iret dX9_drops_35 rfl
theorem tX9_edge : ab_mT[147]? = some (yX9_edge, cX9_edge, 2, 1, 7) := by decide +kernel
theorem mX9_edge {d : Nat} {a0 : Nat} {x0 : Int32} : ab_M rom (d + 1) 147 [.ref a0, .int x0] hp = ab_X rom (ab_M rom d) cX9_edge 7 1 0 [.ref a0, .int x0] [] hp := ab_M_eq tX9_edge (Nat.le_of_ble_eq_true rfl)
theorem dX9_edge_0 : decode cX9_edge 0 = .ok (.aload_n 0, 1) := by decide +kernel
theorem sX9_edge_0 : ab_X rom K cX9_edge 7 1 0 (.ref a :: ls) st hp = ab_X rom K cX9_edge 7 1 1 (.ref a :: ls) (.ref a :: st) hp := ax_aload_n dX9_edge_0 rfl rfl
theorem dX9_edge_1 : decode cX9_edge 1 = .ok (.iload_n 1, 1) := by decide +kernel
theorem sX9_edge_1 : ab_X rom K cX9_edge 7 1 1 (v0 :: .int x :: ls) st hp = ab_X rom K cX9_edge 7 1 2 (v0 :: .int x :: ls) (.int x :: st) hp := ax_iload_n dX9_edge_1 rfl rfl
theorem dX9_edge_2 : decode cX9_edge 2 = .ok (.invokevirtual 68, 3) := by decide +kernel
theorem sX9_edge_2_0 : ab_X rom K cX9_edge 7 1 2 ls [w1, .ref a] hp = if ab_iso hp a 7 = true then (K 171 (.ref a :: [w1]) hp).bind (fun o => ab_X rom K cX9_edge 7 1 5 ls (o.1.toList ++ []) o.2) else none := ay_virtual (as := [w1]) (st := []) dX9_edge_2 kc_7_68 rfl rfl (Nat.le_of_ble_eq_true rfl)
theorem sX9_edge_2_1 : ab_X rom K cX9_edge 7 1 2 ls [w1, .ref a, v0] hp = if ab_iso hp a 7 = true then (K 171 (.ref a :: [w1]) hp).bind (fun o => ab_X rom K cX9_edge 7 1 5 ls (o.1.toList ++ [v0]) o.2) else none := ay_virtual (as := [w1]) (st := [v0]) dX9_edge_2 kc_7_68 rfl rfl (Nat.le_of_ble_eq_true rfl)
theorem sX9_edge_2_2 : ab_X rom K cX9_edge 7 1 2 ls [w1, .ref a, v0, v1] hp = if ab_iso hp a 7 = true then (K 171 (.ref a :: [w1]) hp).bind (fun o => ab_X rom K cX9_edge 7 1 5 ls (o.1.toList ++ [v0, v1]) o.2) else none := ay_virtual (as := [w1]) (st := [v0, v1]) dX9_edge_2 kc_7_68 rfl rfl (Nat.le_of_ble_eq_true rfl)
theorem sX9_edge_2_3 : ab_X rom K cX9_edge 7 1 2 ls [w1, .ref a, v0, v1, v2] hp = if ab_iso hp a 7 = true then (K 171 (.ref a :: [w1]) hp).bind (fun o => ab_X rom K cX9_edge 7 1 5 ls (o.1.toList ++ [v0, v1, v2]) o.2) else none := ay_virtual (as := [w1]) (st := [v0, v1, v2]) dX9_edge_2 kc_7_68 rfl rfl (Nat.le_of_ble_eq_true rfl)
theorem dX9_edge_5 : decode cX9_edge 5 = .ok (.ifCond .ne 8, 3) := by decide +kernel
theorem sX9_edge_5 : ab_X rom K cX9_edge 7 1 5 ls (.int x :: st) hp = if x = 0 then ab_X rom K cX9_edge 7 1 8 ls st hp else ab_X rom K cX9_edge 7 1 13 ls st hp := ax_if_ne dX9_edge_5 (by decide) rfl
theorem dX9_edge_8 : decode cX9_edge 8 = .ok (.bipush (-2), 2) := by decide +kernel
theorem sX9_edge_8 : ab_X rom K cX9_edge 7 1 8 ls st hp = ab_X rom K cX9_edge 7 1 10 ls (.int (-2) :: st) hp := ax_bipush dX9_edge_8 (by decide) rfl
theorem dX9_edge_10 : decode cX9_edge 10 = .ok (.goto 21, 3) := by decide +kernel
theorem sX9_edge_10 : ab_X rom K cX9_edge 7 1 10 ls st hp = ab_X rom K cX9_edge 7 1 31 ls st hp := ax_goto dX9_edge_10 (by decide)
theorem dX9_edge_13 : decode cX9_edge 13 = .ok (.aload_n 0, 1) := by decide +kernel
theorem sX9_edge_13 : ab_X rom K cX9_edge 7 1 13 (.ref a :: ls) st hp = ab_X rom K cX9_edge 7 1 14 (.ref a :: ls) (.ref a :: st) hp := ax_aload_n dX9_edge_13 rfl rfl
theorem dX9_edge_14 : decode cX9_edge 14 = .ok (.iload_n 1, 1) := by decide +kernel
theorem sX9_edge_14 : ab_X rom K cX9_edge 7 1 14 (v0 :: .int x :: ls) st hp = ab_X rom K cX9_edge 7 1 15 (v0 :: .int x :: ls) (.int x :: st) hp := ax_iload_n dX9_edge_14 rfl rfl
theorem dX9_edge_15 : decode cX9_edge 15 = .ok (.invokevirtual 319, 3) := by decide +kernel
theorem sX9_edge_15_0 : ab_X rom K cX9_edge 7 1 15 ls [w1, .ref a] hp = if ab_iso hp a 7 = true then (K 162 (.ref a :: [w1]) hp).bind (fun o => ab_X rom K cX9_edge 7 1 18 ls (o.1.toList ++ []) o.2) else none := ay_virtual (as := [w1]) (st := []) dX9_edge_15 kc_7_319 rfl rfl (Nat.le_of_ble_eq_true rfl)
theorem sX9_edge_15_1 : ab_X rom K cX9_edge 7 1 15 ls [w1, .ref a, v0] hp = if ab_iso hp a 7 = true then (K 162 (.ref a :: [w1]) hp).bind (fun o => ab_X rom K cX9_edge 7 1 18 ls (o.1.toList ++ [v0]) o.2) else none := ay_virtual (as := [w1]) (st := [v0]) dX9_edge_15 kc_7_319 rfl rfl (Nat.le_of_ble_eq_true rfl)
theorem sX9_edge_15_2 : ab_X rom K cX9_edge 7 1 15 ls [w1, .ref a, v0, v1] hp = if ab_iso hp a 7 = true then (K 162 (.ref a :: [w1]) hp).bind (fun o => ab_X rom K cX9_edge 7 1 18 ls (o.1.toList ++ [v0, v1]) o.2) else none := ay_virtual (as := [w1]) (st := [v0, v1]) dX9_edge_15 kc_7_319 rfl rfl (Nat.le_of_ble_eq_true rfl)
theorem sX9_edge_15_3 : ab_X rom K cX9_edge 7 1 15 ls [w1, .ref a, v0, v1, v2] hp = if ab_iso hp a 7 = true then (K 162 (.ref a :: [w1]) hp).bind (fun o => ab_X rom K cX9_edge 7 1 18 ls (o.1.toList ++ [v0, v1, v2]) o.2) else none := ay_virtual (as := [w1]) (st := [v0, v1, v2]) dX9_edge_15 kc_7_319 rfl rfl (Nat.le_of_ble_eq_true rfl)
theorem dX9_edge_18 : decode cX9_edge 18 = .ok (.ifCond .eq 11, 3) := by decide +kernel
theorem sX9_edge_18 : ab_X rom K cX9_edge 7 1 18 ls (.int x :: st) hp = if x = 0 then ab_X rom K cX9_edge 7 1 29 ls st hp else ab_X rom K cX9_edge 7 1 21 ls st hp := ax_if_eq dX9_edge_18 (by decide) rfl
theorem dX9_edge_21 : decode cX9_edge 21 = .ok (.aload_n 0, 1) := by decide +kernel
theorem sX9_edge_21 : ab_X rom K cX9_edge 7 1 21 (.ref a :: ls) st hp = ab_X rom K cX9_edge 7 1 22 (.ref a :: ls) (.ref a :: st) hp := ax_aload_n dX9_edge_21 rfl rfl
theorem dX9_edge_22 : decode cX9_edge 22 = .ok (.iload_n 1, 1) := by decide +kernel
theorem sX9_edge_22 : ab_X rom K cX9_edge 7 1 22 (v0 :: .int x :: ls) st hp = ab_X rom K cX9_edge 7 1 23 (v0 :: .int x :: ls) (.int x :: st) hp := ax_iload_n dX9_edge_22 rfl rfl
theorem dX9_edge_23 : decode cX9_edge 23 = .ok (.invokevirtual 322, 3) := by decide +kernel
theorem sX9_edge_23_0 : ab_X rom K cX9_edge 7 1 23 ls [w1, .ref a] hp = if ab_iso hp a 7 = true then (K 148 (.ref a :: [w1]) hp).bind (fun o => ab_X rom K cX9_edge 7 1 26 ls (o.1.toList ++ []) o.2) else none := ay_virtual (as := [w1]) (st := []) dX9_edge_23 kc_7_322 rfl rfl (Nat.le_of_ble_eq_true rfl)
theorem sX9_edge_23_1 : ab_X rom K cX9_edge 7 1 23 ls [w1, .ref a, v0] hp = if ab_iso hp a 7 = true then (K 148 (.ref a :: [w1]) hp).bind (fun o => ab_X rom K cX9_edge 7 1 26 ls (o.1.toList ++ [v0]) o.2) else none := ay_virtual (as := [w1]) (st := [v0]) dX9_edge_23 kc_7_322 rfl rfl (Nat.le_of_ble_eq_true rfl)
theorem sX9_edge_23_2 : ab_X rom K cX9_edge 7 1 23 ls [w1, .ref a, v0, v1] hp = if ab_iso hp a 7 = true then (K 148 (.ref a :: [w1]) hp).bind (fun o => ab_X rom K cX9_edge 7 1 26 ls (o.1.toList ++ [v0, v1]) o.2) else none := ay_virtual (as := [w1]) (st := [v0, v1]) dX9_edge_23 kc_7_322 rfl rfl (Nat.le_of_ble_eq_true rfl)
theorem sX9_edge_23_3 : ab_X rom K cX9_edge 7 1 23 ls [w1, .ref a, v0, v1, v2] hp = if ab_iso hp a 7 = true then (K 148 (.ref a :: [w1]) hp).bind (fun o => ab_X rom K cX9_edge 7 1 26 ls (o.1.toList ++ [v0, v1, v2]) o.2) else none := ay_virtual (as := [w1]) (st := [v0, v1, v2]) dX9_edge_23 kc_7_322 rfl rfl (Nat.le_of_ble_eq_true rfl)
theorem dX9_edge_26 : decode cX9_edge 26 = .ok (.goto 5, 3) := by decide +kernel
theorem sX9_edge_26 : ab_X rom K cX9_edge 7 1 26 ls st hp = ab_X rom K cX9_edge 7 1 31 ls st hp := ax_goto dX9_edge_26 (by decide)
theorem dX9_edge_29 : decode cX9_edge 29 = .ok (.bipush (-6), 2) := by decide +kernel
theorem sX9_edge_29 : ab_X rom K cX9_edge 7 1 29 ls st hp = ab_X rom K cX9_edge 7 1 31 ls (.int (-6) :: st) hp := ax_bipush dX9_edge_29 (by decide) rfl
theorem dX9_edge_31 : decode cX9_edge 31 = .ok (.ireturn, 1) := by decide +kernel
theorem sX9_edge_31 : ab_X rom K cX9_edge 7 1 31 ls [.int x] hp = some (some (.int x), hp) := ax_iret dX9_edge_31 rfl
theorem tX9_edgeOf : ab_mT[148]? = some (yX9_edgeOf, cX9_edgeOf, 3, 1, 7) := by decide +kernel
theorem mX9_edgeOf {d : Nat} {a0 : Nat} {x0 : Int32} : ab_M rom (d + 1) 148 [.ref a0, .int x0] hp = ab_X rom (ab_M rom d) cX9_edgeOf 7 1 0 [.ref a0, .int x0, .null] [] hp := ab_M_eq tX9_edgeOf (Nat.le_of_ble_eq_true rfl)
theorem dX9_edgeOf_0 : decode cX9_edgeOf 0 = .ok (.aload_n 0, 1) := by decide +kernel
theorem sX9_edgeOf_0 : ab_X rom K cX9_edgeOf 7 1 0 (.ref a :: ls) st hp = ab_X rom K cX9_edgeOf 7 1 1 (.ref a :: ls) (.ref a :: st) hp := ax_aload_n dX9_edgeOf_0 rfl rfl
theorem dX9_edgeOf_1 : decode cX9_edgeOf 1 = .ok (.iload_n 1, 1) := by decide +kernel
theorem sX9_edgeOf_1 : ab_X rom K cX9_edgeOf 7 1 1 (v0 :: .int x :: ls) st hp = ab_X rom K cX9_edgeOf 7 1 2 (v0 :: .int x :: ls) (.int x :: st) hp := ax_iload_n dX9_edgeOf_1 rfl rfl
theorem dX9_edgeOf_2 : decode cX9_edgeOf 2 = .ok (.invokevirtual 213, 3) := by decide +kernel
theorem sX9_edgeOf_2_0 : ab_X rom K cX9_edgeOf 7 1 2 ls [w1, .ref a] hp = if ab_iso hp a 7 = true then (K 185 (.ref a :: [w1]) hp).bind (fun o => ab_X rom K cX9_edgeOf 7 1 5 ls (o.1.toList ++ []) o.2) else none := ay_virtual (as := [w1]) (st := []) dX9_edgeOf_2 kc_7_213 rfl rfl (Nat.le_of_ble_eq_true rfl)
theorem sX9_edgeOf_2_1 : ab_X rom K cX9_edgeOf 7 1 2 ls [w1, .ref a, v0] hp = if ab_iso hp a 7 = true then (K 185 (.ref a :: [w1]) hp).bind (fun o => ab_X rom K cX9_edgeOf 7 1 5 ls (o.1.toList ++ [v0]) o.2) else none := ay_virtual (as := [w1]) (st := [v0]) dX9_edgeOf_2 kc_7_213 rfl rfl (Nat.le_of_ble_eq_true rfl)
theorem sX9_edgeOf_2_2 : ab_X rom K cX9_edgeOf 7 1 2 ls [w1, .ref a, v0, v1] hp = if ab_iso hp a 7 = true then (K 185 (.ref a :: [w1]) hp).bind (fun o => ab_X rom K cX9_edgeOf 7 1 5 ls (o.1.toList ++ [v0, v1]) o.2) else none := ay_virtual (as := [w1]) (st := [v0, v1]) dX9_edgeOf_2 kc_7_213 rfl rfl (Nat.le_of_ble_eq_true rfl)
theorem sX9_edgeOf_2_3 : ab_X rom K cX9_edgeOf 7 1 2 ls [w1, .ref a, v0, v1, v2] hp = if ab_iso hp a 7 = true then (K 185 (.ref a :: [w1]) hp).bind (fun o => ab_X rom K cX9_edgeOf 7 1 5 ls (o.1.toList ++ [v0, v1, v2]) o.2) else none := ay_virtual (as := [w1]) (st := [v0, v1, v2]) dX9_edgeOf_2 kc_7_213 rfl rfl (Nat.le_of_ble_eq_true rfl)
theorem dX9_edgeOf_5 : decode cX9_edgeOf 5 = .ok (.iconst 0, 1) := by decide +kernel
theorem sX9_edgeOf_5 : ab_X rom K cX9_edgeOf 7 1 5 ls st hp = ab_X rom K cX9_edgeOf 7 1 6 ls (.int 0 :: st) hp := ax_iconst dX9_edgeOf_5 (by decide) rfl
theorem dX9_edgeOf_6 : decode cX9_edgeOf 6 = .ok (.istore_n 2, 1) := by decide +kernel
theorem sX9_edgeOf_6i : ab_X rom K cX9_edgeOf 7 1 6 (v0 :: .int y :: v2 :: ls) (.int x :: st) hp = ab_X rom K cX9_edgeOf 7 1 7 (v0 :: .int y :: .int x :: ls) st hp := ax_istore_n dX9_edgeOf_6 (ax_lt (v := v2) rfl) (ab_nl_c1 (j := 1) (v := .int y) rfl (ab_c1_int _)) rfl rfl
theorem sX9_edgeOf_6r : ab_X rom K cX9_edgeOf 7 1 6 (v0 :: .ref a2 :: v2 :: ls) (.int x :: st) hp = ab_X rom K cX9_edgeOf 7 1 7 (v0 :: .ref a2 :: .int x :: ls) st hp := ax_istore_n dX9_edgeOf_6 (ax_lt (v := v2) rfl) (ab_nl_c1 (j := 1) (v := .ref a2) rfl (ab_c1_ref _)) rfl rfl
theorem sX9_edgeOf_6n : ab_X rom K cX9_edgeOf 7 1 6 (v0 :: .null :: v2 :: ls) (.int x :: st) hp = ab_X rom K cX9_edgeOf 7 1 7 (v0 :: .null :: .int x :: ls) st hp := ax_istore_n dX9_edgeOf_6 (ax_lt (v := v2) rfl) (ab_nl_c1 (j := 1) (v := .null) rfl ab_c1_null) rfl rfl
theorem dX9_edgeOf_7 : decode cX9_edgeOf 7 = .ok (.aload_n 0, 1) := by decide +kernel
theorem sX9_edgeOf_7 : ab_X rom K cX9_edgeOf 7 1 7 (.ref a :: ls) st hp = ab_X rom K cX9_edgeOf 7 1 8 (.ref a :: ls) (.ref a :: st) hp := ax_aload_n dX9_edgeOf_7 rfl rfl
theorem dX9_edgeOf_8 : decode cX9_edgeOf 8 = .ok (.iload_n 1, 1) := by decide +kernel
theorem sX9_edgeOf_8 : ab_X rom K cX9_edgeOf 7 1 8 (v0 :: .int x :: ls) st hp = ab_X rom K cX9_edgeOf 7 1 9 (v0 :: .int x :: ls) (.int x :: st) hp := ax_iload_n dX9_edgeOf_8 rfl rfl
theorem dX9_edgeOf_9 : decode cX9_edgeOf 9 = .ok (.iload_n 2, 1) := by decide +kernel
theorem sX9_edgeOf_9 : ab_X rom K cX9_edgeOf 7 1 9 (v0 :: v1 :: .int x :: ls) st hp = ab_X rom K cX9_edgeOf 7 1 10 (v0 :: v1 :: .int x :: ls) (.int x :: st) hp := ax_iload_n dX9_edgeOf_9 rfl rfl
theorem dX9_edgeOf_10 : decode cX9_edgeOf 10 = .ok (.iconst 0, 1) := by decide +kernel
theorem sX9_edgeOf_10 : ab_X rom K cX9_edgeOf 7 1 10 ls st hp = ab_X rom K cX9_edgeOf 7 1 11 ls (.int 0 :: st) hp := ax_iconst dX9_edgeOf_10 (by decide) rfl
theorem dX9_edgeOf_11 : decode cX9_edgeOf 11 = .ok (.invokevirtual 229, 3) := by decide +kernel
theorem sX9_edgeOf_11_0 : ab_X rom K cX9_edgeOf 7 1 11 ls [w3, w2, w1, .ref a] hp = if ab_iso hp a 7 = true then (K 240 (.ref a :: [w1, w2, w3]) hp).bind (fun o => ab_X rom K cX9_edgeOf 7 1 14 ls (o.1.toList ++ []) o.2) else none := ay_virtual (as := [w1, w2, w3]) (st := []) dX9_edgeOf_11 kc_7_229 rfl rfl (Nat.le_of_ble_eq_true rfl)
theorem sX9_edgeOf_11_1 : ab_X rom K cX9_edgeOf 7 1 11 ls [w3, w2, w1, .ref a, v0] hp = if ab_iso hp a 7 = true then (K 240 (.ref a :: [w1, w2, w3]) hp).bind (fun o => ab_X rom K cX9_edgeOf 7 1 14 ls (o.1.toList ++ [v0]) o.2) else none := ay_virtual (as := [w1, w2, w3]) (st := [v0]) dX9_edgeOf_11 kc_7_229 rfl rfl (Nat.le_of_ble_eq_true rfl)
theorem sX9_edgeOf_11_2 : ab_X rom K cX9_edgeOf 7 1 11 ls [w3, w2, w1, .ref a, v0, v1] hp = if ab_iso hp a 7 = true then (K 240 (.ref a :: [w1, w2, w3]) hp).bind (fun o => ab_X rom K cX9_edgeOf 7 1 14 ls (o.1.toList ++ [v0, v1]) o.2) else none := ay_virtual (as := [w1, w2, w3]) (st := [v0, v1]) dX9_edgeOf_11 kc_7_229 rfl rfl (Nat.le_of_ble_eq_true rfl)
theorem sX9_edgeOf_11_3 : ab_X rom K cX9_edgeOf 7 1 11 ls [w3, w2, w1, .ref a, v0, v1, v2] hp = if ab_iso hp a 7 = true then (K 240 (.ref a :: [w1, w2, w3]) hp).bind (fun o => ab_X rom K cX9_edgeOf 7 1 14 ls (o.1.toList ++ [v0, v1, v2]) o.2) else none := ay_virtual (as := [w1, w2, w3]) (st := [v0, v1, v2]) dX9_edgeOf_11 kc_7_229 rfl rfl (Nat.le_of_ble_eq_true rfl)
theorem dX9_edgeOf_14 : decode cX9_edgeOf 14 = .ok (.iconst 1, 1) := by decide +kernel
theorem sX9_edgeOf_14 : ab_X rom K cX9_edgeOf 7 1 14 ls st hp = ab_X rom K cX9_edgeOf 7 1 15 ls (.int 1 :: st) hp := ax_iconst dX9_edgeOf_14 (by decide) rfl
theorem dX9_edgeOf_15 : decode cX9_edgeOf 15 = .ok (.if_icmp .eq 9, 3) := by decide +kernel
theorem sX9_edgeOf_15 : ab_X rom K cX9_edgeOf 7 1 15 ls (.int y :: .int x :: st) hp = if x = y then ab_X rom K cX9_edgeOf 7 1 24 ls st hp else ab_X rom K cX9_edgeOf 7 1 18 ls st hp := ax_icmp_eq dX9_edgeOf_15 (by decide) rfl
theorem dX9_edgeOf_18 : decode cX9_edgeOf 18 = .ok (.iinc 2 1, 3) := by decide +kernel
theorem sX9_edgeOf_18i : ab_X rom K cX9_edgeOf 7 1 18 (v0 :: .int y :: .int x :: ls) st hp = ab_X rom K cX9_edgeOf 7 1 21 (v0 :: .int y :: .int (x + 1) :: ls) st hp := ax_iinc dX9_edgeOf_18 rfl (ab_nl_c1 (j := 1) (v := .int y) rfl (ab_c1_int _)) (by decide) rfl rfl
theorem sX9_edgeOf_18r : ab_X rom K cX9_edgeOf 7 1 18 (v0 :: .ref a2 :: .int x :: ls) st hp = ab_X rom K cX9_edgeOf 7 1 21 (v0 :: .ref a2 :: .int (x + 1) :: ls) st hp := ax_iinc dX9_edgeOf_18 rfl (ab_nl_c1 (j := 1) (v := .ref a2) rfl (ab_c1_ref _)) (by decide) rfl rfl
theorem sX9_edgeOf_18n : ab_X rom K cX9_edgeOf 7 1 18 (v0 :: .null :: .int x :: ls) st hp = ab_X rom K cX9_edgeOf 7 1 21 (v0 :: .null :: .int (x + 1) :: ls) st hp := ax_iinc dX9_edgeOf_18 rfl (ab_nl_c1 (j := 1) (v := .null) rfl ab_c1_null) (by decide) rfl rfl
theorem dX9_edgeOf_21 : decode cX9_edgeOf 21 = .ok (.goto (-14), 3) := by decide +kernel
theorem sX9_edgeOf_21 : ab_X rom K cX9_edgeOf 7 1 21 ls st hp = ab_X rom K cX9_edgeOf 7 1 7 ls st hp := ax_goto dX9_edgeOf_21 (by decide)
theorem dX9_edgeOf_24 : decode cX9_edgeOf 24 = .ok (.aload_n 0, 1) := by decide +kernel
theorem sX9_edgeOf_24 : ab_X rom K cX9_edgeOf 7 1 24 (.ref a :: ls) st hp = ab_X rom K cX9_edgeOf 7 1 25 (.ref a :: ls) (.ref a :: st) hp := ax_aload_n dX9_edgeOf_24 rfl rfl
theorem dX9_edgeOf_25 : decode cX9_edgeOf 25 = .ok (.iload_n 1, 1) := by decide +kernel
theorem sX9_edgeOf_25 : ab_X rom K cX9_edgeOf 7 1 25 (v0 :: .int x :: ls) st hp = ab_X rom K cX9_edgeOf 7 1 26 (v0 :: .int x :: ls) (.int x :: st) hp := ax_iload_n dX9_edgeOf_25 rfl rfl
theorem dX9_edgeOf_26 : decode cX9_edgeOf 26 = .ok (.aload_n 0, 1) := by decide +kernel
theorem sX9_edgeOf_26 : ab_X rom K cX9_edgeOf 7 1 26 (.ref a :: ls) st hp = ab_X rom K cX9_edgeOf 7 1 27 (.ref a :: ls) (.ref a :: st) hp := ax_aload_n dX9_edgeOf_26 rfl rfl
theorem dX9_edgeOf_27 : decode cX9_edgeOf 27 = .ok (.getfield 26, 3) := by decide +kernel
theorem sX9_edgeOf_27 : ab_X rom K cX9_edgeOf 7 1 27 ls (.ref a :: st) hp = (ab_fld hp a 7 13).bind (fun v => ab_X rom K cX9_edgeOf 7 1 30 ls (v :: st) hp) := ax_getfield dX9_edgeOf_27 kf_7_26 rfl
theorem dX9_edgeOf_30 : decode cX9_edgeOf 30 = .ok (.iload_n 2, 1) := by decide +kernel
theorem sX9_edgeOf_30 : ab_X rom K cX9_edgeOf 7 1 30 (v0 :: v1 :: .int x :: ls) st hp = ab_X rom K cX9_edgeOf 7 1 31 (v0 :: v1 :: .int x :: ls) (.int x :: st) hp := ax_iload_n dX9_edgeOf_30 rfl rfl
theorem dX9_edgeOf_31 : decode cX9_edgeOf 31 = .ok (.iaload, 1) := by decide +kernel
theorem sX9_edgeOf_31 : ab_X rom K cX9_edgeOf 7 1 31 ls (.int x :: .ref a :: st) hp = (ab_ard rom 0 hp a x).bind (fun v => ab_X rom K cX9_edgeOf 7 1 32 ls (.int v :: st) hp) := ax_iaload dX9_edgeOf_31 rfl
theorem dX9_edgeOf_32 : decode cX9_edgeOf 32 = .ok (.invokevirtual 168, 3) := by decide +kernel
theorem sX9_edgeOf_32_0 : ab_X rom K cX9_edgeOf 7 1 32 ls [w2, w1, .ref a] hp = if ab_iso hp a 7 = true then (K 183 (.ref a :: [w1, w2]) hp).bind (fun o => ab_X rom K cX9_edgeOf 7 1 35 ls (o.1.toList ++ []) o.2) else none := ay_virtual (as := [w1, w2]) (st := []) dX9_edgeOf_32 kc_7_168 rfl rfl (Nat.le_of_ble_eq_true rfl)
theorem sX9_edgeOf_32_1 : ab_X rom K cX9_edgeOf 7 1 32 ls [w2, w1, .ref a, v0] hp = if ab_iso hp a 7 = true then (K 183 (.ref a :: [w1, w2]) hp).bind (fun o => ab_X rom K cX9_edgeOf 7 1 35 ls (o.1.toList ++ [v0]) o.2) else none := ay_virtual (as := [w1, w2]) (st := [v0]) dX9_edgeOf_32 kc_7_168 rfl rfl (Nat.le_of_ble_eq_true rfl)
theorem sX9_edgeOf_32_2 : ab_X rom K cX9_edgeOf 7 1 32 ls [w2, w1, .ref a, v0, v1] hp = if ab_iso hp a 7 = true then (K 183 (.ref a :: [w1, w2]) hp).bind (fun o => ab_X rom K cX9_edgeOf 7 1 35 ls (o.1.toList ++ [v0, v1]) o.2) else none := ay_virtual (as := [w1, w2]) (st := [v0, v1]) dX9_edgeOf_32 kc_7_168 rfl rfl (Nat.le_of_ble_eq_true rfl)
theorem sX9_edgeOf_32_3 : ab_X rom K cX9_edgeOf 7 1 32 ls [w2, w1, .ref a, v0, v1, v2] hp = if ab_iso hp a 7 = true then (K 183 (.ref a :: [w1, w2]) hp).bind (fun o => ab_X rom K cX9_edgeOf 7 1 35 ls (o.1.toList ++ [v0, v1, v2]) o.2) else none := ay_virtual (as := [w1, w2]) (st := [v0, v1, v2]) dX9_edgeOf_32 kc_7_168 rfl rfl (Nat.le_of_ble_eq_true rfl)
theorem dX9_edgeOf_35 : decode cX9_edgeOf 35 = .ok (.aload_n 0, 1) := by decide +kernel
theorem sX9_edgeOf_35 : ab_X rom K cX9_edgeOf 7 1 35 (.ref a :: ls) st hp = ab_X rom K cX9_edgeOf 7 1 36 (.ref a :: ls) (.ref a :: st) hp := ax_aload_n dX9_edgeOf_35 rfl rfl
theorem dX9_edgeOf_36 : decode cX9_edgeOf 36 = .ok (.iload_n 1, 1) := by decide +kernel
theorem sX9_edgeOf_36 : ab_X rom K cX9_edgeOf 7 1 36 (v0 :: .int x :: ls) st hp = ab_X rom K cX9_edgeOf 7 1 37 (v0 :: .int x :: ls) (.int x :: st) hp := ax_iload_n dX9_edgeOf_36 rfl rfl
theorem dX9_edgeOf_37 : decode cX9_edgeOf 37 = .ok (.aload_n 0, 1) := by decide +kernel
theorem sX9_edgeOf_37 : ab_X rom K cX9_edgeOf 7 1 37 (.ref a :: ls) st hp = ab_X rom K cX9_edgeOf 7 1 38 (.ref a :: ls) (.ref a :: st) hp := ax_aload_n dX9_edgeOf_37 rfl rfl
theorem dX9_edgeOf_38 : decode cX9_edgeOf 38 = .ok (.getfield 29, 3) := by decide +kernel
theorem sX9_edgeOf_38 : ab_X rom K cX9_edgeOf 7 1 38 ls (.ref a :: st) hp = (ab_fld hp a 7 14).bind (fun v => ab_X rom K cX9_edgeOf 7 1 41 ls (v :: st) hp) := ax_getfield dX9_edgeOf_38 kf_7_29 rfl
theorem dX9_edgeOf_41 : decode cX9_edgeOf 41 = .ok (.iload_n 2, 1) := by decide +kernel
theorem sX9_edgeOf_41 : ab_X rom K cX9_edgeOf 7 1 41 (v0 :: v1 :: .int x :: ls) st hp = ab_X rom K cX9_edgeOf 7 1 42 (v0 :: v1 :: .int x :: ls) (.int x :: st) hp := ax_iload_n dX9_edgeOf_41 rfl rfl
theorem dX9_edgeOf_42 : decode cX9_edgeOf 42 = .ok (.iaload, 1) := by decide +kernel
theorem sX9_edgeOf_42 : ab_X rom K cX9_edgeOf 7 1 42 ls (.int x :: .ref a :: st) hp = (ab_ard rom 0 hp a x).bind (fun v => ab_X rom K cX9_edgeOf 7 1 43 ls (.int v :: st) hp) := ax_iaload dX9_edgeOf_42 rfl
theorem dX9_edgeOf_43 : decode cX9_edgeOf 43 = .ok (.invokevirtual 168, 3) := by decide +kernel
theorem sX9_edgeOf_43_0 : ab_X rom K cX9_edgeOf 7 1 43 ls [w2, w1, .ref a] hp = if ab_iso hp a 7 = true then (K 183 (.ref a :: [w1, w2]) hp).bind (fun o => ab_X rom K cX9_edgeOf 7 1 46 ls (o.1.toList ++ []) o.2) else none := ay_virtual (as := [w1, w2]) (st := []) dX9_edgeOf_43 kc_7_168 rfl rfl (Nat.le_of_ble_eq_true rfl)
theorem sX9_edgeOf_43_1 : ab_X rom K cX9_edgeOf 7 1 43 ls [w2, w1, .ref a, v0] hp = if ab_iso hp a 7 = true then (K 183 (.ref a :: [w1, w2]) hp).bind (fun o => ab_X rom K cX9_edgeOf 7 1 46 ls (o.1.toList ++ [v0]) o.2) else none := ay_virtual (as := [w1, w2]) (st := [v0]) dX9_edgeOf_43 kc_7_168 rfl rfl (Nat.le_of_ble_eq_true rfl)
theorem sX9_edgeOf_43_2 : ab_X rom K cX9_edgeOf 7 1 43 ls [w2, w1, .ref a, v0, v1] hp = if ab_iso hp a 7 = true then (K 183 (.ref a :: [w1, w2]) hp).bind (fun o => ab_X rom K cX9_edgeOf 7 1 46 ls (o.1.toList ++ [v0, v1]) o.2) else none := ay_virtual (as := [w1, w2]) (st := [v0, v1]) dX9_edgeOf_43 kc_7_168 rfl rfl (Nat.le_of_ble_eq_true rfl)
theorem sX9_edgeOf_43_3 : ab_X rom K cX9_edgeOf 7 1 43 ls [w2, w1, .ref a, v0, v1, v2] hp = if ab_iso hp a 7 = true then (K 183 (.ref a :: [w1, w2]) hp).bind (fun o => ab_X rom K cX9_edgeOf 7 1 46 ls (o.1.toList ++ [v0, v1, v2]) o.2) else none := ay_virtual (as := [w1, w2]) (st := [v0, v1, v2]) dX9_edgeOf_43 kc_7_168 rfl rfl (Nat.le_of_ble_eq_true rfl)
theorem dX9_edgeOf_46 : decode cX9_edgeOf 46 = .ok (.invokestatic 115, 3) := by decide +kernel
theorem sX9_edgeOf_46_0 : ab_X rom K cX9_edgeOf 7 1 46 ls [.int y, .int x] hp = ab_X rom K cX9_edgeOf 7 1 49 ls [.int (ab_min x y)] hp := ax_min dX9_edgeOf_46 kc_7_115 rfl (Nat.le_of_ble_eq_true rfl)
theorem sX9_edgeOf_46_1 : ab_X rom K cX9_edgeOf 7 1 46 ls [.int y, .int x, v0] hp = ab_X rom K cX9_edgeOf 7 1 49 ls [.int (ab_min x y), v0] hp := ax_min dX9_edgeOf_46 kc_7_115 rfl (Nat.le_of_ble_eq_true rfl)
theorem sX9_edgeOf_46_2 : ab_X rom K cX9_edgeOf 7 1 46 ls [.int y, .int x, v0, v1] hp = ab_X rom K cX9_edgeOf 7 1 49 ls [.int (ab_min x y), v0, v1] hp := ax_min dX9_edgeOf_46 kc_7_115 rfl (Nat.le_of_ble_eq_true rfl)
theorem sX9_edgeOf_46_3 : ab_X rom K cX9_edgeOf 7 1 46 ls [.int y, .int x, v0, v1, v2] hp = ab_X rom K cX9_edgeOf 7 1 49 ls [.int (ab_min x y), v0, v1, v2] hp := ax_min dX9_edgeOf_46 kc_7_115 rfl (Nat.le_of_ble_eq_true rfl)
theorem dX9_edgeOf_49 : decode cX9_edgeOf 49 = .ok (.ireturn, 1) := by decide +kernel
theorem sX9_edgeOf_49 : ab_X rom K cX9_edgeOf 7 1 49 ls [.int x] hp = some (some (.int x), hp) := ax_iret dX9_edgeOf_49 rfl
theorem tX9_end : ab_mT[149]? = some (yX9_end, cX9_end, 2, 1, 7) := by decide +kernel
theorem mX9_end {d : Nat} {a0 : Nat} {x0 : Int32} : ab_M rom (d + 1) 149 [.ref a0, .int x0] hp = ab_X rom (ab_M rom d) cX9_end 7 1 0 [.ref a0, .int x0] [] hp := ab_M_eq tX9_end (Nat.le_of_ble_eq_true rfl)
theorem dX9_end_0 : decode cX9_end 0 = .ok (.iload_n 1, 1) := by decide +kernel
theorem sX9_end_0 : ab_X rom K cX9_end 7 1 0 (v0 :: .int x :: ls) st hp = ab_X rom K cX9_end 7 1 1 (v0 :: .int x :: ls) (.int x :: st) hp := ax_iload_n dX9_end_0 rfl rfl
theorem dX9_end_1 : decode cX9_end 1 = .ok (.i2l, 1) := by decide +kernel
theorem sX9_end_1 : ab_X rom K cX9_end 7 1 1 ls (.int x :: st) hp = ab_X rom K cX9_end 7 1 2 ls (.long x.toInt64 :: st) hp := ax_i2l dX9_end_1 rfl
theorem dX9_end_2 : decode cX9_end 2 = .ok (.lconst 0, 1) := by decide +kernel
theorem sX9_end_2 : ab_X rom K cX9_end 7 1 2 ls st hp = ab_X rom K cX9_end 7 1 3 ls (.long 0 :: st) hp := ax_lconst dX9_end_2 (by decide) rfl
theorem dX9_end_3 : decode cX9_end 3 = .ok (.aload_n 0, 1) := by decide +kernel
theorem sX9_end_3 : ab_X rom K cX9_end 7 1 3 (.ref a :: ls) st hp = ab_X rom K cX9_end 7 1 4 (.ref a :: ls) (.ref a :: st) hp := ax_aload_n dX9_end_3 rfl rfl
theorem dX9_end_4 : decode cX9_end 4 = .ok (.getfield 97, 3) := by decide +kernel
theorem sX9_end_4 : ab_X rom K cX9_end 7 1 4 ls (.ref a :: st) hp = (ab_fld hp a 7 5).bind (fun v => ab_X rom K cX9_end 7 1 7 ls (v :: st) hp) := ax_getfield dX9_end_4 kf_7_97 rfl
theorem dX9_end_7 : decode cX9_end 7 = .ok (.i2l, 1) := by decide +kernel
theorem sX9_end_7 : ab_X rom K cX9_end 7 1 7 ls (.int x :: st) hp = ab_X rom K cX9_end 7 1 8 ls (.long x.toInt64 :: st) hp := ax_i2l dX9_end_7 rfl
theorem dX9_end_8 : decode cX9_end 8 = .ok (.invokestatic 56, 3) := by decide +kernel
theorem sX9_end_8_0 : ab_X rom K cX9_end 7 1 8 ls [w3, w2, w1] hp = (K 159 [w1, w2, w3] hp).bind (fun o => ab_X rom K cX9_end 7 1 11 ls (o.1.toList ++ []) o.2) := ax_static (as := [w1, w2, w3]) (st := []) dX9_end_8 kc_7_56 rfl rfl (Nat.le_of_ble_eq_true rfl)
theorem sX9_end_8_1 : ab_X rom K cX9_end 7 1 8 ls [w3, w2, w1, v0] hp = (K 159 [w1, w2, w3] hp).bind (fun o => ab_X rom K cX9_end 7 1 11 ls (o.1.toList ++ [v0]) o.2) := ax_static (as := [w1, w2, w3]) (st := [v0]) dX9_end_8 kc_7_56 rfl rfl (Nat.le_of_ble_eq_true rfl)
theorem sX9_end_8_2 : ab_X rom K cX9_end 7 1 8 ls [w3, w2, w1, v0, v1] hp = (K 159 [w1, w2, w3] hp).bind (fun o => ab_X rom K cX9_end 7 1 11 ls (o.1.toList ++ [v0, v1]) o.2) := ax_static (as := [w1, w2, w3]) (st := [v0, v1]) dX9_end_8 kc_7_56 rfl rfl (Nat.le_of_ble_eq_true rfl)
theorem sX9_end_8_3 : ab_X rom K cX9_end 7 1 8 ls [w3, w2, w1, v0, v1, v2] hp = (K 159 [w1, w2, w3] hp).bind (fun o => ab_X rom K cX9_end 7 1 11 ls (o.1.toList ++ [v0, v1, v2]) o.2) := ax_static (as := [w1, w2, w3]) (st := [v0, v1, v2]) dX9_end_8 kc_7_56 rfl rfl (Nat.le_of_ble_eq_true rfl)
theorem dX9_end_11 : decode cX9_end 11 = .ok (.ifCond .ne 5, 3) := by decide +kernel
theorem sX9_end_11 : ab_X rom K cX9_end 7 1 11 ls (.int x :: st) hp = if x = 0 then ab_X rom K cX9_end 7 1 14 ls st hp else ab_X rom K cX9_end 7 1 16 ls st hp := ax_if_ne dX9_end_11 (by decide) rfl
theorem dX9_end_14 : decode cX9_end 14 = .ok (.iconst (-1), 1) := by decide +kernel
theorem sX9_end_14 : ab_X rom K cX9_end 7 1 14 ls st hp = ab_X rom K cX9_end 7 1 15 ls (.int (-1) :: st) hp := ax_iconst dX9_end_14 (by decide) rfl
theorem dX9_end_15 : decode cX9_end 15 = .ok (.ireturn, 1) := by decide +kernel
theorem sX9_end_15 : ab_X rom K cX9_end 7 1 15 ls [.int x] hp = some (some (.int x), hp) := ax_iret dX9_end_15 rfl
theorem dX9_end_16 : decode cX9_end 16 = .ok (.aload_n 0, 1) := by decide +kernel
theorem sX9_end_16 : ab_X rom K cX9_end 7 1 16 (.ref a :: ls) st hp = ab_X rom K cX9_end 7 1 17 (.ref a :: ls) (.ref a :: st) hp := ax_aload_n dX9_end_16 rfl rfl
theorem dX9_end_17 : decode cX9_end 17 = .ok (.iload_n 1, 1) := by decide +kernel
theorem sX9_end_17 : ab_X rom K cX9_end 7 1 17 (v0 :: .int x :: ls) st hp = ab_X rom K cX9_end 7 1 18 (v0 :: .int x :: ls) (.int x :: st) hp := ax_iload_n dX9_end_17 rfl rfl
theorem dX9_end_18 : decode cX9_end 18 = .ok (.putfield 97, 3) := by decide +kernel
theorem sX9_end_18 : ab_X rom K cX9_end 7 1 18 ls (.int x :: .ref a :: st) hp = (ab_fpt hp a 7 5 (.int x)).bind (fun hp' => ab_X rom K cX9_end 7 1 21 ls st hp') := ax_putfield dX9_end_18 kf_7_97 rfl (Or.inl rfl) rfl
theorem dX9_end_21 : decode cX9_end 21 = .ok (.iload_n 1, 1) := by decide +kernel
theorem sX9_end_21 : ab_X rom K cX9_end 7 1 21 (v0 :: .int x :: ls) st hp = ab_X rom K cX9_end 7 1 22 (v0 :: .int x :: ls) (.int x :: st) hp := ax_iload_n dX9_end_21 rfl rfl
theorem dX9_end_22 : decode cX9_end 22 = .ok (.ireturn, 1) := by decide +kernel
theorem sX9_end_22 : ab_X rom K cX9_end 7 1 22 ls [.int x] hp = some (some (.int x), hp) := ax_iret dX9_end_22 rfl
theorem tX9_family : ab_mT[150]? = some (yX9_family, cX9_family, 6, 1, 7) := by decide +kernel
theorem mX9_family {d : Nat} {a0 : Nat} {x0 : Int32} {x1 : Int32} {x2 : Int32} {x3 : Int32} : ab_M rom (d + 1) 150 [.ref a0, .int x0, .int x1, .int x2, .int x3] hp = ab_X rom (ab_M rom d) cX9_family 7 1 0 [.ref a0, .int x0, .int x1, .int x2, .int x3, .null] [] hp := ab_M_eq tX9_family (Nat.le_of_ble_eq_true rfl)
theorem dX9_family_0 : decode cX9_family 0 = .ok (.iload_n 1, 1) := by decide +kernel
theorem sX9_family_0 : ab_X rom K cX9_family 7 1 0 (v0 :: .int x :: ls) st hp = ab_X rom K cX9_family 7 1 1 (v0 :: .int x :: ls) (.int x :: st) hp := ax_iload_n dX9_family_0 rfl rfl
theorem dX9_family_1 : decode cX9_family 1 = .ok (.i2l, 1) := by decide +kernel
theorem sX9_family_1 : ab_X rom K cX9_family 7 1 1 ls (.int x :: st) hp = ab_X rom K cX9_family 7 1 2 ls (.long x.toInt64 :: st) hp := ax_i2l dX9_family_1 rfl
theorem dX9_family_2 : decode cX9_family 2 = .ok (.lconst 0, 1) := by decide +kernel
theorem sX9_family_2 : ab_X rom K cX9_family 7 1 2 ls st hp = ab_X rom K cX9_family 7 1 3 ls (.long 0 :: st) hp := ax_lconst dX9_family_2 (by decide) rfl
theorem dX9_family_3 : decode cX9_family 3 = .ok (.ldc2_w 71, 3) := by decide +kernel
theorem sX9_family_3 : ab_X rom K cX9_family 7 1 3 ls st hp = ab_X rom K cX9_family 7 1 6 ls (.long 4 :: st) hp := ax_ldc2 dX9_family_3 kl_7_71 rfl
theorem dX9_family_6 : decode cX9_family 6 = .ok (.invokestatic 56, 3) := by decide +kernel
theorem sX9_family_6_0 : ab_X rom K cX9_family 7 1 6 ls [w3, w2, w1] hp = (K 159 [w1, w2, w3] hp).bind (fun o => ab_X rom K cX9_family 7 1 9 ls (o.1.toList ++ []) o.2) := ax_static (as := [w1, w2, w3]) (st := []) dX9_family_6 kc_7_56 rfl rfl (Nat.le_of_ble_eq_true rfl)
theorem sX9_family_6_1 : ab_X rom K cX9_family 7 1 6 ls [w3, w2, w1, v0] hp = (K 159 [w1, w2, w3] hp).bind (fun o => ab_X rom K cX9_family 7 1 9 ls (o.1.toList ++ [v0]) o.2) := ax_static (as := [w1, w2, w3]) (st := [v0]) dX9_family_6 kc_7_56 rfl rfl (Nat.le_of_ble_eq_true rfl)
theorem sX9_family_6_2 : ab_X rom K cX9_family 7 1 6 ls [w3, w2, w1, v0, v1] hp = (K 159 [w1, w2, w3] hp).bind (fun o => ab_X rom K cX9_family 7 1 9 ls (o.1.toList ++ [v0, v1]) o.2) := ax_static (as := [w1, w2, w3]) (st := [v0, v1]) dX9_family_6 kc_7_56 rfl rfl (Nat.le_of_ble_eq_true rfl)
theorem sX9_family_6_3 : ab_X rom K cX9_family 7 1 6 ls [w3, w2, w1, v0, v1, v2] hp = (K 159 [w1, w2, w3] hp).bind (fun o => ab_X rom K cX9_family 7 1 9 ls (o.1.toList ++ [v0, v1, v2]) o.2) := ax_static (as := [w1, w2, w3]) (st := [v0, v1, v2]) dX9_family_6 kc_7_56 rfl rfl (Nat.le_of_ble_eq_true rfl)
theorem dX9_family_9 : decode cX9_family 9 = .ok (.ifCond .eq 11, 3) := by decide +kernel
theorem sX9_family_9 : ab_X rom K cX9_family 7 1 9 ls (.int x :: st) hp = if x = 0 then ab_X rom K cX9_family 7 1 20 ls st hp else ab_X rom K cX9_family 7 1 12 ls st hp := ax_if_eq dX9_family_9 (by decide) rfl
theorem dX9_family_12 : decode cX9_family 12 = .ok (.iload 4, 2) := by decide +kernel
theorem sX9_family_12 : ab_X rom K cX9_family 7 1 12 (v0 :: v1 :: v2 :: v3 :: .int x :: ls) st hp = ab_X rom K cX9_family 7 1 14 (v0 :: v1 :: v2 :: v3 :: .int x :: ls) (.int x :: st) hp := ax_iload dX9_family_12 rfl rfl
theorem dX9_family_14 : decode cX9_family 14 = .ok (.invokestatic 60, 3) := by decide +kernel
theorem sX9_family_14_0 : ab_X rom K cX9_family 7 1 14 ls [w1] hp = (K 175 [w1] hp).bind (fun o => ab_X rom K cX9_family 7 1 17 ls (o.1.toList ++ []) o.2) := ax_static (as := [w1]) (st := []) dX9_family_14 kc_7_60 rfl rfl (Nat.le_of_ble_eq_true rfl)
theorem sX9_family_14_1 : ab_X rom K cX9_family 7 1 14 ls [w1, v0] hp = (K 175 [w1] hp).bind (fun o => ab_X rom K cX9_family 7 1 17 ls (o.1.toList ++ [v0]) o.2) := ax_static (as := [w1]) (st := [v0]) dX9_family_14 kc_7_60 rfl rfl (Nat.le_of_ble_eq_true rfl)
theorem sX9_family_14_2 : ab_X rom K cX9_family 7 1 14 ls [w1, v0, v1] hp = (K 175 [w1] hp).bind (fun o => ab_X rom K cX9_family 7 1 17 ls (o.1.toList ++ [v0, v1]) o.2) := ax_static (as := [w1]) (st := [v0, v1]) dX9_family_14 kc_7_60 rfl rfl (Nat.le_of_ble_eq_true rfl)
theorem sX9_family_14_3 : ab_X rom K cX9_family 7 1 14 ls [w1, v0, v1, v2] hp = (K 175 [w1] hp).bind (fun o => ab_X rom K cX9_family 7 1 17 ls (o.1.toList ++ [v0, v1, v2]) o.2) := ax_static (as := [w1]) (st := [v0, v1, v2]) dX9_family_14 kc_7_60 rfl rfl (Nat.le_of_ble_eq_true rfl)
theorem dX9_family_17 : decode cX9_family 17 = .ok (.ifCond .ne 6, 3) := by decide +kernel
theorem sX9_family_17 : ab_X rom K cX9_family 7 1 17 ls (.int x :: st) hp = if x = 0 then ab_X rom K cX9_family 7 1 20 ls st hp else ab_X rom K cX9_family 7 1 23 ls st hp := ax_if_ne dX9_family_17 (by decide) rfl
theorem dX9_family_20 : decode cX9_family 20 = .ok (.bipush (-2), 2) := by decide +kernel
theorem sX9_family_20 : ab_X rom K cX9_family 7 1 20 ls st hp = ab_X rom K cX9_family 7 1 22 ls (.int (-2) :: st) hp := ax_bipush dX9_family_20 (by decide) rfl
theorem dX9_family_22 : decode cX9_family 22 = .ok (.ireturn, 1) := by decide +kernel
theorem sX9_family_22 : ab_X rom K cX9_family 7 1 22 ls [.int x] hp = some (some (.int x), hp) := ax_iret dX9_family_22 rfl
theorem dX9_family_23 : decode cX9_family 23 = .ok (.iload_n 1, 1) := by decide +kernel
theorem sX9_family_23 : ab_X rom K cX9_family 7 1 23 (v0 :: .int x :: ls) st hp = ab_X rom K cX9_family 7 1 24 (v0 :: .int x :: ls) (.int x :: st) hp := ax_iload_n dX9_family_23 rfl rfl
theorem dX9_family_24 : decode cX9_family 24 = .ok (.ifCond .ne 11, 3) := by decide +kernel
theorem sX9_family_24 : ab_X rom K cX9_family 7 1 24 ls (.int x :: st) hp = if x = 0 then ab_X rom K cX9_family 7 1 27 ls st hp else ab_X rom K cX9_family 7 1 35 ls st hp := ax_if_ne dX9_family_24 (by decide) rfl
theorem dX9_family_27 : decode cX9_family 27 = .ok (.aload_n 0, 1) := by decide +kernel
theorem sX9_family_27 : ab_X rom K cX9_family 7 1 27 (.ref a :: ls) st hp = ab_X rom K cX9_family 7 1 28 (.ref a :: ls) (.ref a :: st) hp := ax_aload_n dX9_family_27 rfl rfl
theorem dX9_family_28 : decode cX9_family 28 = .ok (.iload_n 2, 1) := by decide +kernel
theorem sX9_family_28 : ab_X rom K cX9_family 7 1 28 (v0 :: v1 :: .int x :: ls) st hp = ab_X rom K cX9_family 7 1 29 (v0 :: v1 :: .int x :: ls) (.int x :: st) hp := ax_iload_n dX9_family_28 rfl rfl
theorem dX9_family_29 : decode cX9_family 29 = .ok (.invokevirtual 353, 3) := by decide +kernel
theorem sX9_family_29_0 : ab_X rom K cX9_family 7 1 29 ls [w1, .ref a] hp = if ab_iso hp a 7 = true then (K 194 (.ref a :: [w1]) hp).bind (fun o => ab_X rom K cX9_family 7 1 32 ls (o.1.toList ++ []) o.2) else none := ay_virtual (as := [w1]) (st := []) dX9_family_29 kc_7_353 rfl rfl (Nat.le_of_ble_eq_true rfl)
theorem sX9_family_29_1 : ab_X rom K cX9_family 7 1 29 ls [w1, .ref a, v0] hp = if ab_iso hp a 7 = true then (K 194 (.ref a :: [w1]) hp).bind (fun o => ab_X rom K cX9_family 7 1 32 ls (o.1.toList ++ [v0]) o.2) else none := ay_virtual (as := [w1]) (st := [v0]) dX9_family_29 kc_7_353 rfl rfl (Nat.le_of_ble_eq_true rfl)
theorem sX9_family_29_2 : ab_X rom K cX9_family 7 1 29 ls [w1, .ref a, v0, v1] hp = if ab_iso hp a 7 = true then (K 194 (.ref a :: [w1]) hp).bind (fun o => ab_X rom K cX9_family 7 1 32 ls (o.1.toList ++ [v0, v1]) o.2) else none := ay_virtual (as := [w1]) (st := [v0, v1]) dX9_family_29 kc_7_353 rfl rfl (Nat.le_of_ble_eq_true rfl)
theorem sX9_family_29_3 : ab_X rom K cX9_family 7 1 29 ls [w1, .ref a, v0, v1, v2] hp = if ab_iso hp a 7 = true then (K 194 (.ref a :: [w1]) hp).bind (fun o => ab_X rom K cX9_family 7 1 32 ls (o.1.toList ++ [v0, v1, v2]) o.2) else none := ay_virtual (as := [w1]) (st := [v0, v1, v2]) dX9_family_29 kc_7_353 rfl rfl (Nat.le_of_ble_eq_true rfl)
theorem dX9_family_32 : decode cX9_family 32 = .ok (.goto 48, 3) := by decide +kernel
theorem sX9_family_32 : ab_X rom K cX9_family 7 1 32 ls st hp = ab_X rom K cX9_family 7 1 80 ls st hp := ax_goto dX9_family_32 (by decide)
theorem dX9_family_35 : decode cX9_family 35 = .ok (.iload_n 1, 1) := by decide +kernel
theorem sX9_family_35 : ab_X rom K cX9_family 7 1 35 (v0 :: .int x :: ls) st hp = ab_X rom K cX9_family 7 1 36 (v0 :: .int x :: ls) (.int x :: st) hp := ax_iload_n dX9_family_35 rfl rfl
theorem dX9_family_36 : decode cX9_family 36 = .ok (.iconst 1, 1) := by decide +kernel
theorem sX9_family_36 : ab_X rom K cX9_family 7 1 36 ls st hp = ab_X rom K cX9_family 7 1 37 ls (.int 1 :: st) hp := ax_iconst dX9_family_36 (by decide) rfl
theorem dX9_family_37 : decode cX9_family 37 = .ok (.if_icmp .ne 11, 3) := by decide +kernel
theorem sX9_family_37 : ab_X rom K cX9_family 7 1 37 ls (.int y :: .int x :: st) hp = if x = y then ab_X rom K cX9_family 7 1 40 ls st hp else ab_X rom K cX9_family 7 1 48 ls st hp := ax_icmp_ne dX9_family_37 (by decide) rfl
theorem dX9_family_40 : decode cX9_family 40 = .ok (.aload_n 0, 1) := by decide +kernel
theorem sX9_family_40 : ab_X rom K cX9_family 7 1 40 (.ref a :: ls) st hp = ab_X rom K cX9_family 7 1 41 (.ref a :: ls) (.ref a :: st) hp := ax_aload_n dX9_family_40 rfl rfl
theorem dX9_family_41 : decode cX9_family 41 = .ok (.iload_n 2, 1) := by decide +kernel
theorem sX9_family_41 : ab_X rom K cX9_family 7 1 41 (v0 :: v1 :: .int x :: ls) st hp = ab_X rom K cX9_family 7 1 42 (v0 :: v1 :: .int x :: ls) (.int x :: st) hp := ax_iload_n dX9_family_41 rfl rfl
theorem dX9_family_42 : decode cX9_family 42 = .ok (.invokevirtual 356, 3) := by decide +kernel
theorem sX9_family_42_0 : ab_X rom K cX9_family 7 1 42 ls [w1, .ref a] hp = if ab_iso hp a 7 = true then (K 197 (.ref a :: [w1]) hp).bind (fun o => ab_X rom K cX9_family 7 1 45 ls (o.1.toList ++ []) o.2) else none := ay_virtual (as := [w1]) (st := []) dX9_family_42 kc_7_356 rfl rfl (Nat.le_of_ble_eq_true rfl)
theorem sX9_family_42_1 : ab_X rom K cX9_family 7 1 42 ls [w1, .ref a, v0] hp = if ab_iso hp a 7 = true then (K 197 (.ref a :: [w1]) hp).bind (fun o => ab_X rom K cX9_family 7 1 45 ls (o.1.toList ++ [v0]) o.2) else none := ay_virtual (as := [w1]) (st := [v0]) dX9_family_42 kc_7_356 rfl rfl (Nat.le_of_ble_eq_true rfl)
theorem sX9_family_42_2 : ab_X rom K cX9_family 7 1 42 ls [w1, .ref a, v0, v1] hp = if ab_iso hp a 7 = true then (K 197 (.ref a :: [w1]) hp).bind (fun o => ab_X rom K cX9_family 7 1 45 ls (o.1.toList ++ [v0, v1]) o.2) else none := ay_virtual (as := [w1]) (st := [v0, v1]) dX9_family_42 kc_7_356 rfl rfl (Nat.le_of_ble_eq_true rfl)
theorem sX9_family_42_3 : ab_X rom K cX9_family 7 1 42 ls [w1, .ref a, v0, v1, v2] hp = if ab_iso hp a 7 = true then (K 197 (.ref a :: [w1]) hp).bind (fun o => ab_X rom K cX9_family 7 1 45 ls (o.1.toList ++ [v0, v1, v2]) o.2) else none := ay_virtual (as := [w1]) (st := [v0, v1, v2]) dX9_family_42 kc_7_356 rfl rfl (Nat.le_of_ble_eq_true rfl)
theorem dX9_family_45 : decode cX9_family 45 = .ok (.goto 35, 3) := by decide +kernel
theorem sX9_family_45 : ab_X rom K cX9_family 7 1 45 ls st hp = ab_X rom K cX9_family 7 1 80 ls st hp := ax_goto dX9_family_45 (by decide)
theorem dX9_family_48 : decode cX9_family 48 = .ok (.iload_n 1, 1) := by decide +kernel
theorem sX9_family_48 : ab_X rom K cX9_family 7 1 48 (v0 :: .int x :: ls) st hp = ab_X rom K cX9_family 7 1 49 (v0 :: .int x :: ls) (.int x :: st) hp := ax_iload_n dX9_family_48 rfl rfl
theorem dX9_family_49 : decode cX9_family 49 = .ok (.iconst 2, 1) := by decide +kernel
theorem sX9_family_49 : ab_X rom K cX9_family 7 1 49 ls st hp = ab_X rom K cX9_family 7 1 50 ls (.int 2 :: st) hp := ax_iconst dX9_family_49 (by decide) rfl
theorem dX9_family_50 : decode cX9_family 50 = .ok (.if_icmp .ne 11, 3) := by decide +kernel
theorem sX9_family_50 : ab_X rom K cX9_family 7 1 50 ls (.int y :: .int x :: st) hp = if x = y then ab_X rom K cX9_family 7 1 53 ls st hp else ab_X rom K cX9_family 7 1 61 ls st hp := ax_icmp_ne dX9_family_50 (by decide) rfl
theorem dX9_family_53 : decode cX9_family 53 = .ok (.aload_n 0, 1) := by decide +kernel
theorem sX9_family_53 : ab_X rom K cX9_family 7 1 53 (.ref a :: ls) st hp = ab_X rom K cX9_family 7 1 54 (.ref a :: ls) (.ref a :: st) hp := ax_aload_n dX9_family_53 rfl rfl
theorem dX9_family_54 : decode cX9_family 54 = .ok (.iload_n 2, 1) := by decide +kernel
theorem sX9_family_54 : ab_X rom K cX9_family 7 1 54 (v0 :: v1 :: .int x :: ls) st hp = ab_X rom K cX9_family 7 1 55 (v0 :: v1 :: .int x :: ls) (.int x :: st) hp := ax_iload_n dX9_family_54 rfl rfl
theorem dX9_family_55 : decode cX9_family 55 = .ok (.invokevirtual 359, 3) := by decide +kernel
theorem sX9_family_55_0 : ab_X rom K cX9_family 7 1 55 ls [w1, .ref a] hp = if ab_iso hp a 7 = true then (K 195 (.ref a :: [w1]) hp).bind (fun o => ab_X rom K cX9_family 7 1 58 ls (o.1.toList ++ []) o.2) else none := ay_virtual (as := [w1]) (st := []) dX9_family_55 kc_7_359 rfl rfl (Nat.le_of_ble_eq_true rfl)
theorem sX9_family_55_1 : ab_X rom K cX9_family 7 1 55 ls [w1, .ref a, v0] hp = if ab_iso hp a 7 = true then (K 195 (.ref a :: [w1]) hp).bind (fun o => ab_X rom K cX9_family 7 1 58 ls (o.1.toList ++ [v0]) o.2) else none := ay_virtual (as := [w1]) (st := [v0]) dX9_family_55 kc_7_359 rfl rfl (Nat.le_of_ble_eq_true rfl)
theorem sX9_family_55_2 : ab_X rom K cX9_family 7 1 55 ls [w1, .ref a, v0, v1] hp = if ab_iso hp a 7 = true then (K 195 (.ref a :: [w1]) hp).bind (fun o => ab_X rom K cX9_family 7 1 58 ls (o.1.toList ++ [v0, v1]) o.2) else none := ay_virtual (as := [w1]) (st := [v0, v1]) dX9_family_55 kc_7_359 rfl rfl (Nat.le_of_ble_eq_true rfl)
theorem sX9_family_55_3 : ab_X rom K cX9_family 7 1 55 ls [w1, .ref a, v0, v1, v2] hp = if ab_iso hp a 7 = true then (K 195 (.ref a :: [w1]) hp).bind (fun o => ab_X rom K cX9_family 7 1 58 ls (o.1.toList ++ [v0, v1, v2]) o.2) else none := ay_virtual (as := [w1]) (st := [v0, v1, v2]) dX9_family_55 kc_7_359 rfl rfl (Nat.le_of_ble_eq_true rfl)
theorem dX9_family_58 : decode cX9_family 58 = .ok (.goto 22, 3) := by decide +kernel
theorem sX9_family_58 : ab_X rom K cX9_family 7 1 58 ls st hp = ab_X rom K cX9_family 7 1 80 ls st hp := ax_goto dX9_family_58 (by decide)
theorem dX9_family_61 : decode cX9_family 61 = .ok (.iload_n 1, 1) := by decide +kernel
theorem sX9_family_61 : ab_X rom K cX9_family 7 1 61 (v0 :: .int x :: ls) st hp = ab_X rom K cX9_family 7 1 62 (v0 :: .int x :: ls) (.int x :: st) hp := ax_iload_n dX9_family_61 rfl rfl
theorem dX9_family_62 : decode cX9_family 62 = .ok (.iconst 3, 1) := by decide +kernel
theorem sX9_family_62 : ab_X rom K cX9_family 7 1 62 ls st hp = ab_X rom K cX9_family 7 1 63 ls (.int 3 :: st) hp := ax_iconst dX9_family_62 (by decide) rfl
theorem dX9_family_63 : decode cX9_family 63 = .ok (.if_icmp .ne 11, 3) := by decide +kernel
theorem sX9_family_63 : ab_X rom K cX9_family 7 1 63 ls (.int y :: .int x :: st) hp = if x = y then ab_X rom K cX9_family 7 1 66 ls st hp else ab_X rom K cX9_family 7 1 74 ls st hp := ax_icmp_ne dX9_family_63 (by decide) rfl
theorem dX9_family_66 : decode cX9_family 66 = .ok (.aload_n 0, 1) := by decide +kernel
theorem sX9_family_66 : ab_X rom K cX9_family 7 1 66 (.ref a :: ls) st hp = ab_X rom K cX9_family 7 1 67 (.ref a :: ls) (.ref a :: st) hp := ax_aload_n dX9_family_66 rfl rfl
theorem dX9_family_67 : decode cX9_family 67 = .ok (.iload_n 2, 1) := by decide +kernel
theorem sX9_family_67 : ab_X rom K cX9_family 7 1 67 (v0 :: v1 :: .int x :: ls) st hp = ab_X rom K cX9_family 7 1 68 (v0 :: v1 :: .int x :: ls) (.int x :: st) hp := ax_iload_n dX9_family_67 rfl rfl
theorem dX9_family_68 : decode cX9_family 68 = .ok (.invokevirtual 362, 3) := by decide +kernel
theorem sX9_family_68_0 : ab_X rom K cX9_family 7 1 68 ls [w1, .ref a] hp = if ab_iso hp a 7 = true then (K 193 (.ref a :: [w1]) hp).bind (fun o => ab_X rom K cX9_family 7 1 71 ls (o.1.toList ++ []) o.2) else none := ay_virtual (as := [w1]) (st := []) dX9_family_68 kc_7_362 rfl rfl (Nat.le_of_ble_eq_true rfl)
theorem sX9_family_68_1 : ab_X rom K cX9_family 7 1 68 ls [w1, .ref a, v0] hp = if ab_iso hp a 7 = true then (K 193 (.ref a :: [w1]) hp).bind (fun o => ab_X rom K cX9_family 7 1 71 ls (o.1.toList ++ [v0]) o.2) else none := ay_virtual (as := [w1]) (st := [v0]) dX9_family_68 kc_7_362 rfl rfl (Nat.le_of_ble_eq_true rfl)
theorem sX9_family_68_2 : ab_X rom K cX9_family 7 1 68 ls [w1, .ref a, v0, v1] hp = if ab_iso hp a 7 = true then (K 193 (.ref a :: [w1]) hp).bind (fun o => ab_X rom K cX9_family 7 1 71 ls (o.1.toList ++ [v0, v1]) o.2) else none := ay_virtual (as := [w1]) (st := [v0, v1]) dX9_family_68 kc_7_362 rfl rfl (Nat.le_of_ble_eq_true rfl)
theorem sX9_family_68_3 : ab_X rom K cX9_family 7 1 68 ls [w1, .ref a, v0, v1, v2] hp = if ab_iso hp a 7 = true then (K 193 (.ref a :: [w1]) hp).bind (fun o => ab_X rom K cX9_family 7 1 71 ls (o.1.toList ++ [v0, v1, v2]) o.2) else none := ay_virtual (as := [w1]) (st := [v0, v1, v2]) dX9_family_68 kc_7_362 rfl rfl (Nat.le_of_ble_eq_true rfl)
theorem dX9_family_71 : decode cX9_family 71 = .ok (.goto 9, 3) := by decide +kernel
theorem sX9_family_71 : ab_X rom K cX9_family 7 1 71 ls st hp = ab_X rom K cX9_family 7 1 80 ls st hp := ax_goto dX9_family_71 (by decide)
theorem dX9_family_74 : decode cX9_family 74 = .ok (.aload_n 0, 1) := by decide +kernel
theorem sX9_family_74 : ab_X rom K cX9_family 7 1 74 (.ref a :: ls) st hp = ab_X rom K cX9_family 7 1 75 (.ref a :: ls) (.ref a :: st) hp := ax_aload_n dX9_family_74 rfl rfl
theorem dX9_family_75 : decode cX9_family 75 = .ok (.iload_n 2, 1) := by decide +kernel
theorem sX9_family_75 : ab_X rom K cX9_family 7 1 75 (v0 :: v1 :: .int x :: ls) st hp = ab_X rom K cX9_family 7 1 76 (v0 :: v1 :: .int x :: ls) (.int x :: st) hp := ax_iload_n dX9_family_75 rfl rfl
theorem dX9_family_76 : decode cX9_family 76 = .ok (.iload_n 3, 1) := by decide +kernel
theorem sX9_family_76 : ab_X rom K cX9_family 7 1 76 (v0 :: v1 :: v2 :: .int x :: ls) st hp = ab_X rom K cX9_family 7 1 77 (v0 :: v1 :: v2 :: .int x :: ls) (.int x :: st) hp := ax_iload_n dX9_family_76 rfl rfl
theorem dX9_family_77 : decode cX9_family 77 = .ok (.invokevirtual 365, 3) := by decide +kernel
theorem sX9_family_77_0 : ab_X rom K cX9_family 7 1 77 ls [w2, w1, .ref a] hp = if ab_iso hp a 7 = true then (K 196 (.ref a :: [w1, w2]) hp).bind (fun o => ab_X rom K cX9_family 7 1 80 ls (o.1.toList ++ []) o.2) else none := ay_virtual (as := [w1, w2]) (st := []) dX9_family_77 kc_7_365 rfl rfl (Nat.le_of_ble_eq_true rfl)
theorem sX9_family_77_1 : ab_X rom K cX9_family 7 1 77 ls [w2, w1, .ref a, v0] hp = if ab_iso hp a 7 = true then (K 196 (.ref a :: [w1, w2]) hp).bind (fun o => ab_X rom K cX9_family 7 1 80 ls (o.1.toList ++ [v0]) o.2) else none := ay_virtual (as := [w1, w2]) (st := [v0]) dX9_family_77 kc_7_365 rfl rfl (Nat.le_of_ble_eq_true rfl)
theorem sX9_family_77_2 : ab_X rom K cX9_family 7 1 77 ls [w2, w1, .ref a, v0, v1] hp = if ab_iso hp a 7 = true then (K 196 (.ref a :: [w1, w2]) hp).bind (fun o => ab_X rom K cX9_family 7 1 80 ls (o.1.toList ++ [v0, v1]) o.2) else none := ay_virtual (as := [w1, w2]) (st := [v0, v1]) dX9_family_77 kc_7_365 rfl rfl (Nat.le_of_ble_eq_true rfl)
theorem sX9_family_77_3 : ab_X rom K cX9_family 7 1 77 ls [w2, w1, .ref a, v0, v1, v2] hp = if ab_iso hp a 7 = true then (K 196 (.ref a :: [w1, w2]) hp).bind (fun o => ab_X rom K cX9_family 7 1 80 ls (o.1.toList ++ [v0, v1, v2]) o.2) else none := ay_virtual (as := [w1, w2]) (st := [v0, v1, v2]) dX9_family_77 kc_7_365 rfl rfl (Nat.le_of_ble_eq_true rfl)
theorem dX9_family_80 : decode cX9_family 80 = .ok (.istore 5, 2) := by decide +kernel
theorem sX9_family_80i : ab_X rom K cX9_family 7 1 80 (v0 :: v1 :: v2 :: v3 :: .int y :: v5 :: ls) (.int x :: st) hp = ab_X rom K cX9_family 7 1 82 (v0 :: v1 :: v2 :: v3 :: .int y :: .int x :: ls) st hp := ax_istore dX9_family_80 (ax_lt (v := v5) rfl) (ab_nl_c1 (j := 4) (v := .int y) rfl (ab_c1_int _)) rfl rfl
theorem sX9_family_80r : ab_X rom K cX9_family 7 1 80 (v0 :: v1 :: v2 :: v3 :: .ref a2 :: v5 :: ls) (.int x :: st) hp = ab_X rom K cX9_family 7 1 82 (v0 :: v1 :: v2 :: v3 :: .ref a2 :: .int x :: ls) st hp := ax_istore dX9_family_80 (ax_lt (v := v5) rfl) (ab_nl_c1 (j := 4) (v := .ref a2) rfl (ab_c1_ref _)) rfl rfl
theorem sX9_family_80n : ab_X rom K cX9_family 7 1 80 (v0 :: v1 :: v2 :: v3 :: .null :: v5 :: ls) (.int x :: st) hp = ab_X rom K cX9_family 7 1 82 (v0 :: v1 :: v2 :: v3 :: .null :: .int x :: ls) st hp := ax_istore dX9_family_80 (ax_lt (v := v5) rfl) (ab_nl_c1 (j := 4) (v := .null) rfl ab_c1_null) rfl rfl
theorem dX9_family_82 : decode cX9_family 82 = .ok (.iload 5, 2) := by decide +kernel
theorem sX9_family_82 : ab_X rom K cX9_family 7 1 82 (v0 :: v1 :: v2 :: v3 :: v4 :: .int x :: ls) st hp = ab_X rom K cX9_family 7 1 84 (v0 :: v1 :: v2 :: v3 :: v4 :: .int x :: ls) (.int x :: st) hp := ax_iload dX9_family_82 rfl rfl
theorem dX9_family_84 : decode cX9_family 84 = .ok (.ifCond .ne 6, 3) := by decide +kernel
theorem sX9_family_84 : ab_X rom K cX9_family 7 1 84 ls (.int x :: st) hp = if x = 0 then ab_X rom K cX9_family 7 1 87 ls st hp else ab_X rom K cX9_family 7 1 90 ls st hp := ax_if_ne dX9_family_84 (by decide) rfl
theorem dX9_family_87 : decode cX9_family 87 = .ok (.bipush (-2), 2) := by decide +kernel
theorem sX9_family_87 : ab_X rom K cX9_family 7 1 87 ls st hp = ab_X rom K cX9_family 7 1 89 ls (.int (-2) :: st) hp := ax_bipush dX9_family_87 (by decide) rfl
theorem dX9_family_89 : decode cX9_family 89 = .ok (.ireturn, 1) := by decide +kernel
theorem sX9_family_89 : ab_X rom K cX9_family 7 1 89 ls [.int x] hp = some (some (.int x), hp) := ax_iret dX9_family_89 rfl
theorem dX9_family_90 : decode cX9_family 90 = .ok (.aload_n 0, 1) := by decide +kernel
theorem sX9_family_90 : ab_X rom K cX9_family 7 1 90 (.ref a :: ls) st hp = ab_X rom K cX9_family 7 1 91 (.ref a :: ls) (.ref a :: st) hp := ax_aload_n dX9_family_90 rfl rfl
theorem dX9_family_91 : decode cX9_family 91 = .ok (.iload 4, 2) := by decide +kernel
theorem sX9_family_91 : ab_X rom K cX9_family 7 1 91 (v0 :: v1 :: v2 :: v3 :: .int x :: ls) st hp = ab_X rom K cX9_family 7 1 93 (v0 :: v1 :: v2 :: v3 :: .int x :: ls) (.int x :: st) hp := ax_iload dX9_family_91 rfl rfl
theorem dX9_family_93 : decode cX9_family 93 = .ok (.invokevirtual 338, 3) := by decide +kernel
theorem sX9_family_93_0 : ab_X rom K cX9_family 7 1 93 ls [w1, .ref a] hp = if ab_iso hp a 7 = true then (K 139 (.ref a :: [w1]) hp).bind (fun o => ab_X rom K cX9_family 7 1 96 ls (o.1.toList ++ []) o.2) else none := ay_virtual (as := [w1]) (st := []) dX9_family_93 kc_7_338 rfl rfl (Nat.le_of_ble_eq_true rfl)
theorem sX9_family_93_1 : ab_X rom K cX9_family 7 1 93 ls [w1, .ref a, v0] hp = if ab_iso hp a 7 = true then (K 139 (.ref a :: [w1]) hp).bind (fun o => ab_X rom K cX9_family 7 1 96 ls (o.1.toList ++ [v0]) o.2) else none := ay_virtual (as := [w1]) (st := [v0]) dX9_family_93 kc_7_338 rfl rfl (Nat.le_of_ble_eq_true rfl)
theorem sX9_family_93_2 : ab_X rom K cX9_family 7 1 93 ls [w1, .ref a, v0, v1] hp = if ab_iso hp a 7 = true then (K 139 (.ref a :: [w1]) hp).bind (fun o => ab_X rom K cX9_family 7 1 96 ls (o.1.toList ++ [v0, v1]) o.2) else none := ay_virtual (as := [w1]) (st := [v0, v1]) dX9_family_93 kc_7_338 rfl rfl (Nat.le_of_ble_eq_true rfl)
theorem sX9_family_93_3 : ab_X rom K cX9_family 7 1 93 ls [w1, .ref a, v0, v1, v2] hp = if ab_iso hp a 7 = true then (K 139 (.ref a :: [w1]) hp).bind (fun o => ab_X rom K cX9_family 7 1 96 ls (o.1.toList ++ [v0, v1, v2]) o.2) else none := ay_virtual (as := [w1]) (st := [v0, v1, v2]) dX9_family_93 kc_7_338 rfl rfl (Nat.le_of_ble_eq_true rfl)
theorem dX9_family_96 : decode cX9_family 96 = .ok (.aload_n 0, 1) := by decide +kernel
theorem sX9_family_96 : ab_X rom K cX9_family 7 1 96 (.ref a :: ls) st hp = ab_X rom K cX9_family 7 1 97 (.ref a :: ls) (.ref a :: st) hp := ax_aload_n dX9_family_96 rfl rfl
theorem dX9_family_97 : decode cX9_family 97 = .ok (.aload_n 0, 1) := by decide +kernel
theorem sX9_family_97 : ab_X rom K cX9_family 7 1 97 (.ref a :: ls) st hp = ab_X rom K cX9_family 7 1 98 (.ref a :: ls) (.ref a :: st) hp := ax_aload_n dX9_family_97 rfl rfl
theorem dX9_family_98 : decode cX9_family 98 = .ok (.iload 4, 2) := by decide +kernel
theorem sX9_family_98 : ab_X rom K cX9_family 7 1 98 (v0 :: v1 :: v2 :: v3 :: .int x :: ls) st hp = ab_X rom K cX9_family 7 1 100 (v0 :: v1 :: v2 :: v3 :: .int x :: ls) (.int x :: st) hp := ax_iload dX9_family_98 rfl rfl
theorem dX9_family_100 : decode cX9_family 100 = .ok (.invokevirtual 150, 3) := by decide +kernel
theorem sX9_family_100_0 : ab_X rom K cX9_family 7 1 100 ls [w1, .ref a] hp = if ab_iso hp a 7 = true then (K 188 (.ref a :: [w1]) hp).bind (fun o => ab_X rom K cX9_family 7 1 103 ls (o.1.toList ++ []) o.2) else none := ay_virtual (as := [w1]) (st := []) dX9_family_100 kc_7_150 rfl rfl (Nat.le_of_ble_eq_true rfl)
theorem sX9_family_100_1 : ab_X rom K cX9_family 7 1 100 ls [w1, .ref a, v0] hp = if ab_iso hp a 7 = true then (K 188 (.ref a :: [w1]) hp).bind (fun o => ab_X rom K cX9_family 7 1 103 ls (o.1.toList ++ [v0]) o.2) else none := ay_virtual (as := [w1]) (st := [v0]) dX9_family_100 kc_7_150 rfl rfl (Nat.le_of_ble_eq_true rfl)
theorem sX9_family_100_2 : ab_X rom K cX9_family 7 1 100 ls [w1, .ref a, v0, v1] hp = if ab_iso hp a 7 = true then (K 188 (.ref a :: [w1]) hp).bind (fun o => ab_X rom K cX9_family 7 1 103 ls (o.1.toList ++ [v0, v1]) o.2) else none := ay_virtual (as := [w1]) (st := [v0, v1]) dX9_family_100 kc_7_150 rfl rfl (Nat.le_of_ble_eq_true rfl)
theorem sX9_family_100_3 : ab_X rom K cX9_family 7 1 100 ls [w1, .ref a, v0, v1, v2] hp = if ab_iso hp a 7 = true then (K 188 (.ref a :: [w1]) hp).bind (fun o => ab_X rom K cX9_family 7 1 103 ls (o.1.toList ++ [v0, v1, v2]) o.2) else none := ay_virtual (as := [w1]) (st := [v0, v1, v2]) dX9_family_100 kc_7_150 rfl rfl (Nat.le_of_ble_eq_true rfl)
theorem dX9_family_103 : decode cX9_family 103 = .ok (.invokevirtual 94, 3) := by decide +kernel
theorem sX9_family_103_0 : ab_X rom K cX9_family 7 1 103 ls [w1, .ref a] hp = if ab_iso hp a 7 = true then (K 144 (.ref a :: [w1]) hp).bind (fun o => ab_X rom K cX9_family 7 1 106 ls (o.1.toList ++ []) o.2) else none := ay_virtual (as := [w1]) (st := []) dX9_family_103 kc_7_94 rfl rfl (Nat.le_of_ble_eq_true rfl)
theorem sX9_family_103_1 : ab_X rom K cX9_family 7 1 103 ls [w1, .ref a, v0] hp = if ab_iso hp a 7 = true then (K 144 (.ref a :: [w1]) hp).bind (fun o => ab_X rom K cX9_family 7 1 106 ls (o.1.toList ++ [v0]) o.2) else none := ay_virtual (as := [w1]) (st := [v0]) dX9_family_103 kc_7_94 rfl rfl (Nat.le_of_ble_eq_true rfl)
theorem sX9_family_103_2 : ab_X rom K cX9_family 7 1 103 ls [w1, .ref a, v0, v1] hp = if ab_iso hp a 7 = true then (K 144 (.ref a :: [w1]) hp).bind (fun o => ab_X rom K cX9_family 7 1 106 ls (o.1.toList ++ [v0, v1]) o.2) else none := ay_virtual (as := [w1]) (st := [v0, v1]) dX9_family_103 kc_7_94 rfl rfl (Nat.le_of_ble_eq_true rfl)
theorem sX9_family_103_3 : ab_X rom K cX9_family 7 1 103 ls [w1, .ref a, v0, v1, v2] hp = if ab_iso hp a 7 = true then (K 144 (.ref a :: [w1]) hp).bind (fun o => ab_X rom K cX9_family 7 1 106 ls (o.1.toList ++ [v0, v1, v2]) o.2) else none := ay_virtual (as := [w1]) (st := [v0, v1, v2]) dX9_family_103 kc_7_94 rfl rfl (Nat.le_of_ble_eq_true rfl)
theorem dX9_family_106 : decode cX9_family 106 = .ok (.ireturn, 1) := by decide +kernel
theorem sX9_family_106 : ab_X rom K cX9_family 7 1 106 ls [.int x] hp = some (some (.int x), hp) := ax_iret dX9_family_106 rfl
theorem tX9_fault : ab_mT[151]? = some (yX9_fault, cX9_fault, 2, 1, 7) := by decide +kernel
theorem mX9_fault {d : Nat} {a0 : Nat} {x0 : Int32} : ab_M rom (d + 1) 151 [.ref a0, .int x0] hp = ab_X rom (ab_M rom d) cX9_fault 7 1 0 [.ref a0, .int x0] [] hp := ab_M_eq tX9_fault (Nat.le_of_ble_eq_true rfl)
theorem dX9_fault_0 : decode cX9_fault 0 = .ok (.iload_n 1, 1) := by decide +kernel
theorem sX9_fault_0 : ab_X rom K cX9_fault 7 1 0 (v0 :: .int x :: ls) st hp = ab_X rom K cX9_fault 7 1 1 (v0 :: .int x :: ls) (.int x :: st) hp := ax_iload_n dX9_fault_0 rfl rfl
theorem dX9_fault_1 : decode cX9_fault 1 = .ok (.ifCond .ne 10, 3) := by decide +kernel
theorem sX9_fault_1 : ab_X rom K cX9_fault 7 1 1 ls (.int x :: st) hp = if x = 0 then ab_X rom K cX9_fault 7 1 4 ls st hp else ab_X rom K cX9_fault 7 1 11 ls st hp := ax_if_ne dX9_fault_1 (by decide) rfl
theorem dX9_fault_4 : decode cX9_fault 4 = .ok (.aload_n 0, 1) := by decide +kernel
theorem sX9_fault_4 : ab_X rom K cX9_fault 7 1 4 (.ref a :: ls) st hp = ab_X rom K cX9_fault 7 1 5 (.ref a :: ls) (.ref a :: st) hp := ax_aload_n dX9_fault_4 rfl rfl
theorem dX9_fault_5 : decode cX9_fault 5 = .ok (.getfield 124, 3) := by decide +kernel
theorem sX9_fault_5 : ab_X rom K cX9_fault 7 1 5 ls (.ref a :: st) hp = (ab_fld hp a 7 6).bind (fun v => ab_X rom K cX9_fault 7 1 8 ls (v :: st) hp) := ax_getfield dX9_fault_5 kf_7_124 rfl
theorem dX9_fault_8 : decode cX9_fault 8 = .ok (.goto 16, 3) := by decide +kernel
theorem sX9_fault_8 : ab_X rom K cX9_fault 7 1 8 ls st hp = ab_X rom K cX9_fault 7 1 24 ls st hp := ax_goto dX9_fault_8 (by decide)
theorem dX9_fault_11 : decode cX9_fault 11 = .ok (.iload_n 1, 1) := by decide +kernel
theorem sX9_fault_11 : ab_X rom K cX9_fault 7 1 11 (v0 :: .int x :: ls) st hp = ab_X rom K cX9_fault 7 1 12 (v0 :: .int x :: ls) (.int x :: st) hp := ax_iload_n dX9_fault_11 rfl rfl
theorem dX9_fault_12 : decode cX9_fault 12 = .ok (.iconst 1, 1) := by decide +kernel
theorem sX9_fault_12 : ab_X rom K cX9_fault 7 1 12 ls st hp = ab_X rom K cX9_fault 7 1 13 ls (.int 1 :: st) hp := ax_iconst dX9_fault_12 (by decide) rfl
theorem dX9_fault_13 : decode cX9_fault 13 = .ok (.if_icmp .ne 10, 3) := by decide +kernel
theorem sX9_fault_13 : ab_X rom K cX9_fault 7 1 13 ls (.int y :: .int x :: st) hp = if x = y then ab_X rom K cX9_fault 7 1 16 ls st hp else ab_X rom K cX9_fault 7 1 23 ls st hp := ax_icmp_ne dX9_fault_13 (by decide) rfl
theorem dX9_fault_16 : decode cX9_fault 16 = .ok (.aload_n 0, 1) := by decide +kernel
theorem sX9_fault_16 : ab_X rom K cX9_fault 7 1 16 (.ref a :: ls) st hp = ab_X rom K cX9_fault 7 1 17 (.ref a :: ls) (.ref a :: st) hp := ax_aload_n dX9_fault_16 rfl rfl
theorem dX9_fault_17 : decode cX9_fault 17 = .ok (.getfield 22, 3) := by decide +kernel
theorem sX9_fault_17 : ab_X rom K cX9_fault 7 1 17 ls (.ref a :: st) hp = (ab_fld hp a 7 7).bind (fun v => ab_X rom K cX9_fault 7 1 20 ls (v :: st) hp) := ax_getfield dX9_fault_17 kf_7_22 rfl
theorem dX9_fault_20 : decode cX9_fault 20 = .ok (.goto 4, 3) := by decide +kernel
theorem sX9_fault_20 : ab_X rom K cX9_fault 7 1 20 ls st hp = ab_X rom K cX9_fault 7 1 24 ls st hp := ax_goto dX9_fault_20 (by decide)
theorem dX9_fault_23 : decode cX9_fault 23 = .ok (.iconst (-1), 1) := by decide +kernel
theorem sX9_fault_23 : ab_X rom K cX9_fault 7 1 23 ls st hp = ab_X rom K cX9_fault 7 1 24 ls (.int (-1) :: st) hp := ax_iconst dX9_fault_23 (by decide) rfl
theorem dX9_fault_24 : decode cX9_fault 24 = .ok (.ireturn, 1) := by decide +kernel
theorem sX9_fault_24 : ab_X rom K cX9_fault 7 1 24 ls [.int x] hp = some (some (.int x), hp) := ax_iret dX9_fault_24 rfl
theorem tX9_faults : ab_mT[152]? = some (yX9_faults, cX9_faults, 2, 0, 7) := by decide +kernel
theorem mX9_faults {d : Nat} {a0 : Nat} {x0 : Int32} : ab_M rom (d + 1) 152 [.ref a0, .int x0] hp = ab_X rom (ab_M rom d) cX9_faults 7 0 0 [.ref a0, .int x0] [] hp := ab_M_eq tX9_faults (Nat.le_of_ble_eq_true rfl)
theorem dX9_faults_0 : decode cX9_faults 0 = .ok (.aload_n 0, 1) := by decide +kernel
theorem sX9_faults_0 : ab_X rom K cX9_faults 7 0 0 (.ref a :: ls) st hp = ab_X rom K cX9_faults 7 0 1 (.ref a :: ls) (.ref a :: st) hp := ax_aload_n dX9_faults_0 rfl rfl
theorem dX9_faults_1 : decode cX9_faults 1 = .ok (.getfield 120, 3) := by decide +kernel
theorem sX9_faults_1 : ab_X rom K cX9_faults 7 0 1 ls (.ref a :: st) hp = (ab_fld hp a 7 12).bind (fun v => ab_X rom K cX9_faults 7 0 4 ls (v :: st) hp) := ax_getfield dX9_faults_1 kf_7_120 rfl
theorem dX9_faults_4 : decode cX9_faults 4 = .ok (.ifCond .ne 21, 3) := by decide +kernel
theorem sX9_faults_4 : ab_X rom K cX9_faults 7 0 4 ls (.int x :: st) hp = if x = 0 then ab_X rom K cX9_faults 7 0 7 ls st hp else ab_X rom K cX9_faults 7 0 25 ls st hp := ax_if_ne dX9_faults_4 (by decide) rfl
theorem dX9_faults_7 : decode cX9_faults 7 = .ok (.aload_n 0, 1) := by decide +kernel
theorem sX9_faults_7 : ab_X rom K cX9_faults 7 0 7 (.ref a :: ls) st hp = ab_X rom K cX9_faults 7 0 8 (.ref a :: ls) (.ref a :: st) hp := ax_aload_n dX9_faults_7 rfl rfl
theorem dX9_faults_8 : decode cX9_faults 8 = .ok (.iconst 1, 1) := by decide +kernel
theorem sX9_faults_8 : ab_X rom K cX9_faults 7 0 8 ls st hp = ab_X rom K cX9_faults 7 0 9 ls (.int 1 :: st) hp := ax_iconst dX9_faults_8 (by decide) rfl
theorem dX9_faults_9 : decode cX9_faults 9 = .ok (.putfield 120, 3) := by decide +kernel
theorem sX9_faults_9 : ab_X rom K cX9_faults 7 0 9 ls (.int x :: .ref a :: st) hp = if x = 0 ∨ x = 1 then (ab_fpt hp a 7 12 (.int x)).bind (fun hp' => ab_X rom K cX9_faults 7 0 12 ls st hp') else none := ay_putbool dX9_faults_9 kf_7_120 rfl
theorem dX9_faults_12 : decode cX9_faults 12 = .ok (.aload_n 0, 1) := by decide +kernel
theorem sX9_faults_12 : ab_X rom K cX9_faults 7 0 12 (.ref a :: ls) st hp = ab_X rom K cX9_faults 7 0 13 (.ref a :: ls) (.ref a :: st) hp := ax_aload_n dX9_faults_12 rfl rfl
theorem dX9_faults_13 : decode cX9_faults 13 = .ok (.iload_n 1, 1) := by decide +kernel
theorem sX9_faults_13 : ab_X rom K cX9_faults 7 0 13 (v0 :: .int x :: ls) st hp = ab_X rom K cX9_faults 7 0 14 (v0 :: .int x :: ls) (.int x :: st) hp := ax_iload_n dX9_faults_13 rfl rfl
theorem dX9_faults_14 : decode cX9_faults 14 = .ok (.putfield 124, 3) := by decide +kernel
theorem sX9_faults_14 : ab_X rom K cX9_faults 7 0 14 ls (.int x :: .ref a :: st) hp = (ab_fpt hp a 7 6 (.int x)).bind (fun hp' => ab_X rom K cX9_faults 7 0 17 ls st hp') := ax_putfield dX9_faults_14 kf_7_124 rfl (Or.inl rfl) rfl
theorem dX9_faults_17 : decode cX9_faults 17 = .ok (.aload_n 0, 1) := by decide +kernel
theorem sX9_faults_17 : ab_X rom K cX9_faults 7 0 17 (.ref a :: ls) st hp = ab_X rom K cX9_faults 7 0 18 (.ref a :: ls) (.ref a :: st) hp := ax_aload_n dX9_faults_17 rfl rfl
theorem dX9_faults_18 : decode cX9_faults 18 = .ok (.aload_n 0, 1) := by decide +kernel
theorem sX9_faults_18 : ab_X rom K cX9_faults 7 0 18 (.ref a :: ls) st hp = ab_X rom K cX9_faults 7 0 19 (.ref a :: ls) (.ref a :: st) hp := ax_aload_n dX9_faults_18 rfl rfl
theorem dX9_faults_19 : decode cX9_faults 19 = .ok (.getfield 106, 3) := by decide +kernel
theorem sX9_faults_19 : ab_X rom K cX9_faults 7 0 19 ls (.ref a :: st) hp = (ab_fld hp a 7 9).bind (fun v => ab_X rom K cX9_faults 7 0 22 ls (v :: st) hp) := ax_getfield dX9_faults_19 kf_7_106 rfl
theorem dX9_faults_22 : decode cX9_faults 22 = .ok (.putfield 22, 3) := by decide +kernel
theorem sX9_faults_22 : ab_X rom K cX9_faults 7 0 22 ls (.int x :: .ref a :: st) hp = (ab_fpt hp a 7 7 (.int x)).bind (fun hp' => ab_X rom K cX9_faults 7 0 25 ls st hp') := ax_putfield dX9_faults_22 kf_7_22 rfl (Or.inl rfl) rfl
theorem dX9_faults_25 : decode cX9_faults 25 = .ok (.return_, 1) := by decide +kernel
theorem sX9_faults_25 : ab_X rom K cX9_faults 7 0 25 ls [] hp = some (none, hp) := ax_vret dX9_faults_25 (by decide)
end
