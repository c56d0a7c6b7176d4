/-! the law, step by step (printed by wip/whole/gen_law.py) -/
section
variable {rom : List (List Int32)} {K : Nat → List Value → ab_H → Option ab_O} {ls st : List Value} {hp : ab_H} {x y z : Int32} {a a2 : Nat} {sp dp : Int32} {u w : Int64} {v0 v1 v2 v3 v4 v5 v6 v7 v8 v9 v10 v11 v12 v13 v14 v15 w1 w2 w3 w4 w5 w6 : Value}
theorem dL_law_606 : decode cL_law 606 = .ok (.iconst 3, 1) := by decide +kernel
theorem sL_law_606 : ab_X rom K cL_law 12 2 606 ls st hp = ab_X rom K cL_law 12 2 607 ls (.int 3 :: st) hp := ax_iconst dL_law_606 (by decide) rfl
theorem dL_law_607 : decode cL_law 607 = .ok (.iadd, 1) := by decide +kernel
theorem sL_law_607 : ab_X rom K cL_law 12 2 607 ls (.int y :: .int x :: st) hp = ab_X rom K cL_law 12 2 608 ls (.int (x + y) :: st) hp := ax_iadd dL_law_607 rfl
theorem dL_law_608 : decode cL_law 608 = .ok (.iaload, 1) := by decide +kernel
theorem sL_law_608 : ab_X rom K cL_law 12 2 608 ls (.int x :: .ref a :: st) hp = (ab_ard rom 0 hp a x).bind (fun v => ab_X rom K cL_law 12 2 609 ls (.int v :: st) hp) := ax_iaload dL_law_608 rfl
theorem dL_law_609 : decode cL_law 609 = .ok (.invokevirtual 61, 3) := by decide +kernel
theorem sL_law_609_0 : ab_X rom K cL_law 12 2 609 ls [w3, w2, w1, .ref a] hp = if ab_iso hp a 6 = true then (K 127 (.ref a :: [w1, w2, w3]) hp).bind (fun o => ab_X rom K cL_law 12 2 612 ls (o.1.toList ++ []) o.2) else none := ay_virtual (as := [w1, w2, w3]) (st := []) dL_law_609 kc_12_61 rfl rfl (Nat.le_of_ble_eq_true rfl)
theorem sL_law_609_1 : ab_X rom K cL_law 12 2 609 ls [w3, w2, w1, .ref a, v0] hp = if ab_iso hp a 6 = true then (K 127 (.ref a :: [w1, w2, w3]) hp).bind (fun o => ab_X rom K cL_law 12 2 612 ls (o.1.toList ++ [v0]) o.2) else none := ay_virtual (as := [w1, w2, w3]) (st := [v0]) dL_law_609 kc_12_61 rfl rfl (Nat.le_of_ble_eq_true rfl)
theorem sL_law_609_2 : ab_X rom K cL_law 12 2 609 ls [w3, w2, w1, .ref a, v0, v1] hp = if ab_iso hp a 6 = true then (K 127 (.ref a :: [w1, w2, w3]) hp).bind (fun o => ab_X rom K cL_law 12 2 612 ls (o.1.toList ++ [v0, v1]) o.2) else none := ay_virtual (as := [w1, w2, w3]) (st := [v0, v1]) dL_law_609 kc_12_61 rfl rfl (Nat.le_of_ble_eq_true rfl)
theorem sL_law_609_3 : ab_X rom K cL_law 12 2 609 ls [w3, w2, w1, .ref a, v0, v1, v2] hp = if ab_iso hp a 6 = true then (K 127 (.ref a :: [w1, w2, w3]) hp).bind (fun o => ab_X rom K cL_law 12 2 612 ls (o.1.toList ++ [v0, v1, v2]) o.2) else none := ay_virtual (as := [w1, w2, w3]) (st := [v0, v1, v2]) dL_law_609 kc_12_61 rfl rfl (Nat.le_of_ble_eq_true rfl)
theorem dL_law_612 : decode cL_law 612 = .ok (.aload_n 2, 1) := by decide +kernel
theorem sL_law_612 : ab_X rom K cL_law 12 2 612 (v0 :: v1 :: .ref a :: ls) st hp = ab_X rom K cL_law 12 2 613 (v0 :: v1 :: .ref a :: ls) (.ref a :: st) hp := ax_aload_n dL_law_612 rfl rfl
theorem dL_law_613 : decode cL_law 613 = .ok (.aload_n 0, 1) := by decide +kernel
theorem sL_law_613 : ab_X rom K cL_law 12 2 613 (.ref a :: ls) st hp = ab_X rom K cL_law 12 2 614 (.ref a :: ls) (.ref a :: st) hp := ax_aload_n dL_law_613 rfl rfl
theorem dL_law_614 : decode cL_law 614 = .ok (.iload_n 3, 1) := by decide +kernel
theorem sL_law_614 : ab_X rom K cL_law 12 2 614 (v0 :: v1 :: v2 :: .int x :: ls) st hp = ab_X rom K cL_law 12 2 615 (v0 :: v1 :: v2 :: .int x :: ls) (.int x :: st) hp := ax_iload_n dL_law_614 rfl rfl
theorem dL_law_615 : decode cL_law 615 = .ok (.iconst 1, 1) := by decide +kernel
theorem sL_law_615 : ab_X rom K cL_law 12 2 615 ls st hp = ab_X rom K cL_law 12 2 616 ls (.int 1 :: st) hp := ax_iconst dL_law_615 (by decide) rfl
theorem dL_law_616 : decode cL_law 616 = .ok (.iadd, 1) := by decide +kernel
theorem sL_law_616 : ab_X rom K cL_law 12 2 616 ls (.int y :: .int x :: st) hp = ab_X rom K cL_law 12 2 617 ls (.int (x + y) :: st) hp := ax_iadd dL_law_616 rfl
theorem dL_law_617 : decode cL_law 617 = .ok (.iaload, 1) := by decide +kernel
theorem sL_law_617 : ab_X rom K cL_law 12 2 617 ls (.int x :: .ref a :: st) hp = (ab_ard rom 0 hp a x).bind (fun v => ab_X rom K cL_law 12 2 618 ls (.int v :: st) hp) := ax_iaload dL_law_617 rfl
theorem dL_law_618 : decode cL_law 618 = .ok (.aload_n 0, 1) := by decide +kernel
theorem sL_law_618 : ab_X rom K cL_law 12 2 618 (.ref a :: ls) st hp = ab_X rom K cL_law 12 2 619 (.ref a :: ls) (.ref a :: st) hp := ax_aload_n dL_law_618 rfl rfl
theorem dL_law_619 : decode cL_law 619 = .ok (.iload_n 3, 1) := by decide +kernel
theorem sL_law_619 : ab_X rom K cL_law 12 2 619 (v0 :: v1 :: v2 :: .int x :: ls) st hp = ab_X rom K cL_law 12 2 620 (v0 :: v1 :: v2 :: .int x :: ls) (.int x :: st) hp := ax_iload_n dL_law_619 rfl rfl
theorem dL_law_620 : decode cL_law 620 = .ok (.iconst 2, 1) := by decide +kernel
theorem sL_law_620 : ab_X rom K cL_law 12 2 620 ls st hp = ab_X rom K cL_law 12 2 621 ls (.int 2 :: st) hp := ax_iconst dL_law_620 (by decide) rfl
theorem dL_law_621 : decode cL_law 621 = .ok (.iadd, 1) := by decide +kernel
theorem sL_law_621 : ab_X rom K cL_law 12 2 621 ls (.int y :: .int x :: st) hp = ab_X rom K cL_law 12 2 622 ls (.int (x + y) :: st) hp := ax_iadd dL_law_621 rfl
theorem dL_law_622 : decode cL_law 622 = .ok (.iaload, 1) := by decide +kernel
theorem sL_law_622 : ab_X rom K cL_law 12 2 622 ls (.int x :: .ref a :: st) hp = (ab_ard rom 0 hp a x).bind (fun v => ab_X rom K cL_law 12 2 623 ls (.int v :: st) hp) := ax_iaload dL_law_622 rfl
theorem dL_law_623 : decode cL_law 623 = .ok (.aload_n 0, 1) := by decide +kernel
theorem sL_law_623 : ab_X rom K cL_law 12 2 623 (.ref a :: ls) st hp = ab_X rom K cL_law 12 2 624 (.ref a :: ls) (.ref a :: st) hp := ax_aload_n dL_law_623 rfl rfl
theorem dL_law_624 : decode cL_law 624 = .ok (.iload_n 3, 1) := by decide +kernel
theorem sL_law_624 : ab_X rom K cL_law 12 2 624 (v0 :: v1 :: v2 :: .int x :: ls) st hp = ab_X rom K cL_law 12 2 625 (v0 :: v1 :: v2 :: .int x :: ls) (.int x :: st) hp := ax_iload_n dL_law_624 rfl rfl
theorem dL_law_625 : decode cL_law 625 = .ok (.iconst 3, 1) := by decide +kernel
theorem sL_law_625 : ab_X rom K cL_law 12 2 625 ls st hp = ab_X rom K cL_law 12 2 626 ls (.int 3 :: st) hp := ax_iconst dL_law_625 (by decide) rfl
theorem dL_law_626 : decode cL_law 626 = .ok (.iadd, 1) := by decide +kernel
theorem sL_law_626 : ab_X rom K cL_law 12 2 626 ls (.int y :: .int x :: st) hp = ab_X rom K cL_law 12 2 627 ls (.int (x + y) :: st) hp := ax_iadd dL_law_626 rfl
theorem dL_law_627 : decode cL_law 627 = .ok (.iaload, 1) := by decide +kernel
theorem sL_law_627 : ab_X rom K cL_law 12 2 627 ls (.int x :: .ref a :: st) hp = (ab_ard rom 0 hp a x).bind (fun v => ab_X rom K cL_law 12 2 628 ls (.int v :: st) hp) := ax_iaload dL_law_627 rfl
theorem dL_law_628 : decode cL_law 628 = .ok (.invokevirtual 64, 3) := by decide +kernel
theorem sL_law_628_0 : ab_X rom K cL_law 12 2 628 ls [w3, w2, w1, .ref a] hp = if ab_iso hp a 7 = true then (K 240 (.ref a :: [w1, w2, w3]) hp).bind (fun o => ab_X rom K cL_law 12 2 631 ls (o.1.toList ++ []) o.2) else none := ay_virtual (as := [w1, w2, w3]) (st := []) dL_law_628 kc_12_64 rfl rfl (Nat.le_of_ble_eq_true rfl)
theorem sL_law_628_1 : ab_X rom K cL_law 12 2 628 ls [w3, w2, w1, .ref a, v0] hp = if ab_iso hp a 7 = true then (K 240 (.ref a :: [w1, w2, w3]) hp).bind (fun o => ab_X rom K cL_law 12 2 631 ls (o.1.toList ++ [v0]) o.2) else none := ay_virtual (as := [w1, w2, w3]) (st := [v0]) dL_law_628 kc_12_64 rfl rfl (Nat.le_of_ble_eq_true rfl)
theorem sL_law_628_2 : ab_X rom K cL_law 12 2 628 ls [w3, w2, w1, .ref a, v0, v1] hp = if ab_iso hp a 7 = true then (K 240 (.ref a :: [w1, w2, w3]) hp).bind (fun o => ab_X rom K cL_law 12 2 631 ls (o.1.toList ++ [v0, v1]) o.2) else none := ay_virtual (as := [w1, w2, w3]) (st := [v0, v1]) dL_law_628 kc_12_64 rfl rfl (Nat.le_of_ble_eq_true rfl)
theorem sL_law_628_3 : ab_X rom K cL_law 12 2 628 ls [w3, w2, w1, .ref a, v0, v1, v2] hp = if ab_iso hp a 7 = true then (K 240 (.ref a :: [w1, w2, w3]) hp).bind (fun o => ab_X rom K cL_law 12 2 631 ls (o.1.toList ++ [v0, v1, v2]) o.2) else none := ay_virtual (as := [w1, w2, w3]) (st := [v0, v1, v2]) dL_law_628 kc_12_64 rfl rfl (Nat.le_of_ble_eq_true rfl)
theorem dL_law_631 : decode cL_law 631 = .ok (.if_icmp .eq 853, 3) := by decide +kernel
theorem sL_law_631 : ab_X rom K cL_law 12 2 631 ls (.int y :: .int x :: st) hp = if x = y then ab_X rom K cL_law 12 2 1484 ls st hp else ab_X rom K cL_law 12 2 634 ls st hp := ax_icmp_eq dL_law_631 (by decide) rfl
theorem dL_law_636 : decode cL_law 636 = .ok (.aload_n 1, 1) := by decide +kernel
theorem sL_law_636 : ab_X rom K cL_law 12 2 636 (v0 :: .ref a :: ls) st hp = ab_X rom K cL_law 12 2 637 (v0 :: .ref a :: ls) (.ref a :: st) hp := ax_aload_n dL_law_636 rfl rfl
theorem dL_law_637 : decode cL_law 637 = .ok (.aload_n 0, 1) := by decide +kernel
theorem sL_law_637 : ab_X rom K cL_law 12 2 637 (.ref a :: ls) st hp = ab_X rom K cL_law 12 2 638 (.ref a :: ls) (.ref a :: st) hp := ax_aload_n dL_law_637 rfl rfl
theorem dL_law_638 : decode cL_law 638 = .ok (.iload_n 3, 1) := by decide +kernel
theorem sL_law_638 : ab_X rom K cL_law 12 2 638 (v0 :: v1 :: v2 :: .int x :: ls) st hp = ab_X rom K cL_law 12 2 639 (v0 :: v1 :: v2 :: .int x :: ls) (.int x :: st) hp := ax_iload_n dL_law_638 rfl rfl
theorem dL_law_639 : decode cL_law 639 = .ok (.iconst 1, 1) := by decide +kernel
theorem sL_law_639 : ab_X rom K cL_law 12 2 639 ls st hp = ab_X rom K cL_law 12 2 640 ls (.int 1 :: st) hp := ax_iconst dL_law_639 (by decide) rfl
theorem dL_law_640 : decode cL_law 640 = .ok (.iadd, 1) := by decide +kernel
theorem sL_law_640 : ab_X rom K cL_law 12 2 640 ls (.int y :: .int x :: st) hp = ab_X rom K cL_law 12 2 641 ls (.int (x + y) :: st) hp := ax_iadd dL_law_640 rfl
theorem dL_law_641 : decode cL_law 641 = .ok (.iaload, 1) := by decide +kernel
theorem sL_law_641 : ab_X rom K cL_law 12 2 641 ls (.int x :: .ref a :: st) hp = (ab_ard rom 0 hp a x).bind (fun v => ab_X rom K cL_law 12 2 642 ls (.int v :: st) hp) := ax_iaload dL_law_641 rfl
theorem dL_law_642 : decode cL_law 642 = .ok (.aload_n 0, 1) := by decide +kernel
theorem sL_law_642 : ab_X rom K cL_law 12 2 642 (.ref a :: ls) st hp = ab_X rom K cL_law 12 2 643 (.ref a :: ls) (.ref a :: st) hp := ax_aload_n dL_law_642 rfl rfl
theorem dL_law_643 : decode cL_law 643 = .ok (.iload_n 3, 1) := by decide +kernel
theorem sL_law_643 : ab_X rom K cL_law 12 2 643 (v0 :: v1 :: v2 :: .int x :: ls) st hp = ab_X rom K cL_law 12 2 644 (v0 :: v1 :: v2 :: .int x :: ls) (.int x :: st) hp := ax_iload_n dL_law_643 rfl rfl
theorem dL_law_644 : decode cL_law 644 = .ok (.iconst 2, 1) := by decide +kernel
theorem sL_law_644 : ab_X rom K cL_law 12 2 644 ls st hp = ab_X rom K cL_law 12 2 645 ls (.int 2 :: st) hp := ax_iconst dL_law_644 (by decide) rfl
theorem dL_law_645 : decode cL_law 645 = .ok (.iadd, 1) := by decide +kernel
theorem sL_law_645 : ab_X rom K cL_law 12 2 645 ls (.int y :: .int x :: st) hp = ab_X rom K cL_law 12 2 646 ls (.int (x + y) :: st) hp := ax_iadd dL_law_645 rfl
theorem dL_law_646 : decode cL_law 646 = .ok (.iaload, 1) := by decide +kernel
theorem sL_law_646 : ab_X rom K cL_law 12 2 646 ls (.int x :: .ref a :: st) hp = (ab_ard rom 0 hp a x).bind (fun v => ab_X rom K cL_law 12 2 647 ls (.int v :: st) hp) := ax_iaload dL_law_646 rfl
theorem dL_law_647 : decode cL_law 647 = .ok (.invokevirtual 65, 3) := by decide +kernel
theorem sL_law_647_0 : ab_X rom K cL_law 12 2 647 ls [w2, w1, .ref a] hp = if ab_iso hp a 6 = true then (K 113 (.ref a :: [w1, w2]) hp).bind (fun o => ab_X rom K cL_law 12 2 650 ls (o.1.toList ++ []) o.2) else none := ay_virtual (as := [w1, w2]) (st := []) dL_law_647 kc_12_65 rfl rfl (Nat.le_of_ble_eq_true rfl)
theorem sL_law_647_1 : ab_X rom K cL_law 12 2 647 ls [w2, w1, .ref a, v0] hp = if ab_iso hp a 6 = true then (K 113 (.ref a :: [w1, w2]) hp).bind (fun o => ab_X rom K cL_law 12 2 650 ls (o.1.toList ++ [v0]) o.2) else none := ay_virtual (as := [w1, w2]) (st := [v0]) dL_law_647 kc_12_65 rfl rfl (Nat.le_of_ble_eq_true rfl)
theorem sL_law_647_2 : ab_X rom K cL_law 12 2 647 ls [w2, w1, .ref a, v0, v1] hp = if ab_iso hp a 6 = true then (K 113 (.ref a :: [w1, w2]) hp).bind (fun o => ab_X rom K cL_law 12 2 650 ls (o.1.toList ++ [v0, v1]) o.2) else none := ay_virtual (as := [w1, w2]) (st := [v0, v1]) dL_law_647 kc_12_65 rfl rfl (Nat.le_of_ble_eq_true rfl)
theorem sL_law_647_3 : ab_X rom K cL_law 12 2 647 ls [w2, w1, .ref a, v0, v1, v2] hp = if ab_iso hp a 6 = true then (K 113 (.ref a :: [w1, w2]) hp).bind (fun o => ab_X rom K cL_law 12 2 650 ls (o.1.toList ++ [v0, v1, v2]) o.2) else none := ay_virtual (as := [w1, w2]) (st := [v0, v1, v2]) dL_law_647 kc_12_65 rfl rfl (Nat.le_of_ble_eq_true rfl)
theorem dL_law_650 : decode cL_law 650 = .ok (.aload_n 2, 1) := by decide +kernel
theorem sL_law_650 : ab_X rom K cL_law 12 2 650 (v0 :: v1 :: .ref a :: ls) st hp = ab_X rom K cL_law 12 2 651 (v0 :: v1 :: .ref a :: ls) (.ref a :: st) hp := ax_aload_n dL_law_650 rfl rfl
theorem dL_law_651 : decode cL_law 651 = .ok (.aload_n 0, 1) := by decide +kernel
theorem sL_law_651 : ab_X rom K cL_law 12 2 651 (.ref a :: ls) st hp = ab_X rom K cL_law 12 2 652 (.ref a :: ls) (.ref a :: st) hp := ax_aload_n dL_law_651 rfl rfl
theorem dL_law_652 : decode cL_law 652 = .ok (.iload_n 3, 1) := by decide +kernel
theorem sL_law_652 : ab_X rom K cL_law 12 2 652 (v0 :: v1 :: v2 :: .int x :: ls) st hp = ab_X rom K cL_law 12 2 653 (v0 :: v1 :: v2 :: .int x :: ls) (.int x :: st) hp := ax_iload_n dL_law_652 rfl rfl
theorem dL_law_653 : decode cL_law 653 = .ok (.iconst 1, 1) := by decide +kernel
theorem sL_law_653 : ab_X rom K cL_law 12 2 653 ls st hp = ab_X rom K cL_law 12 2 654 ls (.int 1 :: st) hp := ax_iconst dL_law_653 (by decide) rfl
theorem dL_law_654 : decode cL_law 654 = .ok (.iadd, 1) := by decide +kernel
theorem sL_law_654 : ab_X rom K cL_law 12 2 654 ls (.int y :: .int x :: st) hp = ab_X rom K cL_law 12 2 655 ls (.int (x + y) :: st) hp := ax_iadd dL_law_654 rfl
theorem dL_law_655 : decode cL_law 655 = .ok (.iaload, 1) := by decide +kernel
theorem sL_law_655 : ab_X rom K cL_law 12 2 655 ls (.int x :: .ref a :: st) hp = (ab_ard rom 0 hp a x).bind (fun v => ab_X rom K cL_law 12 2 656 ls (.int v :: st) hp) := ax_iaload dL_law_655 rfl
theorem dL_law_656 : decode cL_law 656 = .ok (.aload_n 0, 1) := by decide +kernel
theorem sL_law_656 : ab_X rom K cL_law 12 2 656 (.ref a :: ls) st hp = ab_X rom K cL_law 12 2 657 (.ref a :: ls) (.ref a :: st) hp := ax_aload_n dL_law_656 rfl rfl
theorem dL_law_657 : decode cL_law 657 = .ok (.iload_n 3, 1) := by decide +kernel
theorem sL_law_657 : ab_X rom K cL_law 12 2 657 (v0 :: v1 :: v2 :: .int x :: ls) st hp = ab_X rom K cL_law 12 2 658 (v0 :: v1 :: v2 :: .int x :: ls) (.int x :: st) hp := ax_iload_n dL_law_657 rfl rfl
theorem dL_law_658 : decode cL_law 658 = .ok (.iconst 2, 1) := by decide +kernel
theorem sL_law_658 : ab_X rom K cL_law 12 2 658 ls st hp = ab_X rom K cL_law 12 2 659 ls (.int 2 :: st) hp := ax_iconst dL_law_658 (by decide) rfl
theorem dL_law_659 : decode cL_law 659 = .ok (.iadd, 1) := by decide +kernel
theorem sL_law_659 : ab_X rom K cL_law 12 2 659 ls (.int y :: .int x :: st) hp = ab_X rom K cL_law 12 2 660 ls (.int (x + y) :: st) hp := ax_iadd dL_law_659 rfl
theorem dL_law_660 : decode cL_law 660 = .ok (.iaload, 1) := by decide +kernel
theorem sL_law_660 : ab_X rom K cL_law 12 2 660 ls (.int x :: .ref a :: st) hp = (ab_ard rom 0 hp a x).bind (fun v => ab_X rom K cL_law 12 2 661 ls (.int v :: st) hp) := ax_iaload dL_law_660 rfl
theorem dL_law_661 : decode cL_law 661 = .ok (.invokevirtual 68, 3) := by decide +kernel
theorem sL_law_661_0 : ab_X rom K cL_law 12 2 661 ls [w2, w1, .ref a] hp = if ab_iso hp a 7 = true then (K 222 (.ref a :: [w1, w2]) hp).bind (fun o => ab_X rom K cL_law 12 2 664 ls (o.1.toList ++ []) o.2) else none := ay_virtual (as := [w1, w2]) (st := []) dL_law_661 kc_12_68 rfl rfl (Nat.le_of_ble_eq_true rfl)
theorem sL_law_661_1 : ab_X rom K cL_law 12 2 661 ls [w2, w1, .ref a, v0] hp = if ab_iso hp a 7 = true then (K 222 (.ref a :: [w1, w2]) hp).bind (fun o => ab_X rom K cL_law 12 2 664 ls (o.1.toList ++ [v0]) o.2) else none := ay_virtual (as := [w1, w2]) (st := [v0]) dL_law_661 kc_12_68 rfl rfl (Nat.le_of_ble_eq_true rfl)
theorem sL_law_661_2 : ab_X rom K cL_law 12 2 661 ls [w2, w1, .ref a, v0, v1] hp = if ab_iso hp a 7 = true then (K 222 (.ref a :: [w1, w2]) hp).bind (fun o => ab_X rom K cL_law 12 2 664 ls (o.1.toList ++ [v0, v1]) o.2) else none := ay_virtual (as := [w1, w2]) (st := [v0, v1]) dL_law_661 kc_12_68 rfl rfl (Nat.le_of_ble_eq_true rfl)
theorem sL_law_661_3 : ab_X rom K cL_law 12 2 661 ls [w2, w1, .ref a, v0, v1, v2] hp = if ab_iso hp a 7 = true then (K 222 (.ref a :: [w1, w2]) hp).bind (fun o => ab_X rom K cL_law 12 2 664 ls (o.1.toList ++ [v0, v1, v2]) o.2) else none := ay_virtual (as := [w1, w2]) (st := [v0, v1, v2]) dL_law_661 kc_12_68 rfl rfl (Nat.le_of_ble_eq_true rfl)
theorem dL_law_664 : decode cL_law 664 = .ok (.if_icmp .eq 820, 3) := by decide +kernel
theorem sL_law_664 : ab_X rom K cL_law 12 2 664 ls (.int y :: .int x :: st) hp = if x = y then ab_X rom K cL_law 12 2 1484 ls st hp else ab_X rom K cL_law 12 2 667 ls st hp := ax_icmp_eq dL_law_664 (by decide) rfl
theorem dL_law_669 : decode cL_law 669 = .ok (.aload_n 1, 1) := by decide +kernel
theorem sL_law_669 : ab_X rom K cL_law 12 2 669 (v0 :: .ref a :: ls) st hp = ab_X rom K cL_law 12 2 670 (v0 :: .ref a :: ls) (.ref a :: st) hp := ax_aload_n dL_law_669 rfl rfl
theorem dL_law_670 : decode cL_law 670 = .ok (.aload_n 0, 1) := by decide +kernel
theorem sL_law_670 : ab_X rom K cL_law 12 2 670 (.ref a :: ls) st hp = ab_X rom K cL_law 12 2 671 (.ref a :: ls) (.ref a :: st) hp := ax_aload_n dL_law_670 rfl rfl
theorem dL_law_671 : decode cL_law 671 = .ok (.iload_n 3, 1) := by decide +kernel
theorem sL_law_671 : ab_X rom K cL_law 12 2 671 (v0 :: v1 :: v2 :: .int x :: ls) st hp = ab_X rom K cL_law 12 2 672 (v0 :: v1 :: v2 :: .int x :: ls) (.int x :: st) hp := ax_iload_n dL_law_671 rfl rfl
theorem dL_law_672 : decode cL_law 672 = .ok (.iconst 1, 1) := by decide +kernel
theorem sL_law_672 : ab_X rom K cL_law 12 2 672 ls st hp = ab_X rom K cL_law 12 2 673 ls (.int 1 :: st) hp := ax_iconst dL_law_672 (by decide) rfl
theorem dL_law_673 : decode cL_law 673 = .ok (.iadd, 1) := by decide +kernel
theorem sL_law_673 : ab_X rom K cL_law 12 2 673 ls (.int y :: .int x :: st) hp = ab_X rom K cL_law 12 2 674 ls (.int (x + y) :: st) hp := ax_iadd dL_law_673 rfl
theorem dL_law_674 : decode cL_law 674 = .ok (.iaload, 1) := by decide +kernel
theorem sL_law_674 : ab_X rom K cL_law 12 2 674 ls (.int x :: .ref a :: st) hp = (ab_ard rom 0 hp a x).bind (fun v => ab_X rom K cL_law 12 2 675 ls (.int v :: st) hp) := ax_iaload dL_law_674 rfl
theorem dL_law_675 : decode cL_law 675 = .ok (.aload_n 0, 1) := by decide +kernel
theorem sL_law_675 : ab_X rom K cL_law 12 2 675 (.ref a :: ls) st hp = ab_X rom K cL_law 12 2 676 (.ref a :: ls) (.ref a :: st) hp := ax_aload_n dL_law_675 rfl rfl
theorem dL_law_676 : decode cL_law 676 = .ok (.iload_n 3, 1) := by decide +kernel
theorem sL_law_676 : ab_X rom K cL_law 12 2 676 (v0 :: v1 :: v2 :: .int x :: ls) st hp = ab_X rom K cL_law 12 2 677 (v0 :: v1 :: v2 :: .int x :: ls) (.int x :: st) hp := ax_iload_n dL_law_676 rfl rfl
theorem dL_law_677 : decode cL_law 677 = .ok (.iconst 2, 1) := by decide +kernel
theorem sL_law_677 : ab_X rom K cL_law 12 2 677 ls st hp = ab_X rom K cL_law 12 2 678 ls (.int 2 :: st) hp := ax_iconst dL_law_677 (by decide) rfl
theorem dL_law_678 : decode cL_law 678 = .ok (.iadd, 1) := by decide +kernel
theorem sL_law_678 : ab_X rom K cL_law 12 2 678 ls (.int y :: .int x :: st) hp = ab_X rom K cL_law 12 2 679 ls (.int (x + y) :: st) hp := ax_iadd dL_law_678 rfl
theorem dL_law_679 : decode cL_law 679 = .ok (.iaload, 1) := by decide +kernel
theorem sL_law_679 : ab_X rom K cL_law 12 2 679 ls (.int x :: .ref a :: st) hp = (ab_ard rom 0 hp a x).bind (fun v => ab_X rom K cL_law 12 2 680 ls (.int v :: st) hp) := ax_iaload dL_law_679 rfl
theorem dL_law_680 : decode cL_law 680 = .ok (.invokevirtual 69, 3) := by decide +kernel
theorem sL_law_680_0 : ab_X rom K cL_law 12 2 680 ls [w2, w1, .ref a] hp = if ab_iso hp a 6 = true then (K 122 (.ref a :: [w1, w2]) hp).bind (fun o => ab_X rom K cL_law 12 2 683 ls (o.1.toList ++ []) o.2) else none := ay_virtual (as := [w1, w2]) (st := []) dL_law_680 kc_12_69 rfl rfl (Nat.le_of_ble_eq_true rfl)
theorem sL_law_680_1 : ab_X rom K cL_law 12 2 680 ls [w2, w1, .ref a, v0] hp = if ab_iso hp a 6 = true then (K 122 (.ref a :: [w1, w2]) hp).bind (fun o => ab_X rom K cL_law 12 2 683 ls (o.1.toList ++ [v0]) o.2) else none := ay_virtual (as := [w1, w2]) (st := [v0]) dL_law_680 kc_12_69 rfl rfl (Nat.le_of_ble_eq_true rfl)
theorem sL_law_680_2 : ab_X rom K cL_law 12 2 680 ls [w2, w1, .ref a, v0, v1] hp = if ab_iso hp a 6 = true then (K 122 (.ref a :: [w1, w2]) hp).bind (fun o => ab_X rom K cL_law 12 2 683 ls (o.1.toList ++ [v0, v1]) o.2) else none := ay_virtual (as := [w1, w2]) (st := [v0, v1]) dL_law_680 kc_12_69 rfl rfl (Nat.le_of_ble_eq_true rfl)
theorem sL_law_680_3 : ab_X rom K cL_law 12 2 680 ls [w2, w1, .ref a, v0, v1, v2] hp = if ab_iso hp a 6 = true then (K 122 (.ref a :: [w1, w2]) hp).bind (fun o => ab_X rom K cL_law 12 2 683 ls (o.1.toList ++ [v0, v1, v2]) o.2) else none := ay_virtual (as := [w1, w2]) (st := [v0, v1, v2]) dL_law_680 kc_12_69 rfl rfl (Nat.le_of_ble_eq_true rfl)
theorem dL_law_683 : decode cL_law 683 = .ok (.aload_n 2, 1) := by decide +kernel
theorem sL_law_683 : ab_X rom K cL_law 12 2 683 (v0 :: v1 :: .ref a :: ls) st hp = ab_X rom K cL_law 12 2 684 (v0 :: v1 :: .ref a :: ls) (.ref a :: st) hp := ax_aload_n dL_law_683 rfl rfl
theorem dL_law_684 : decode cL_law 684 = .ok (.aload_n 0, 1) := by decide +kernel
theorem sL_law_684 : ab_X rom K cL_law 12 2 684 (.ref a :: ls) st hp = ab_X rom K cL_law 12 2 685 (.ref a :: ls) (.ref a :: st) hp := ax_aload_n dL_law_684 rfl rfl
theorem dL_law_685 : decode cL_law 685 = .ok (.iload_n 3, 1) := by decide +kernel
theorem sL_law_685 : ab_X rom K cL_law 12 2 685 (v0 :: v1 :: v2 :: .int x :: ls) st hp = ab_X rom K cL_law 12 2 686 (v0 :: v1 :: v2 :: .int x :: ls) (.int x :: st) hp := ax_iload_n dL_law_685 rfl rfl
theorem dL_law_686 : decode cL_law 686 = .ok (.iconst 1, 1) := by decide +kernel
theorem sL_law_686 : ab_X rom K cL_law 12 2 686 ls st hp = ab_X rom K cL_law 12 2 687 ls (.int 1 :: st) hp := ax_iconst dL_law_686 (by decide) rfl
theorem dL_law_687 : decode cL_law 687 = .ok (.iadd, 1) := by decide +kernel
theorem sL_law_687 : ab_X rom K cL_law 12 2 687 ls (.int y :: .int x :: st) hp = ab_X rom K cL_law 12 2 688 ls (.int (x + y) :: st) hp := ax_iadd dL_law_687 rfl
theorem dL_law_688 : decode cL_law 688 = .ok (.iaload, 1) := by decide +kernel
theorem sL_law_688 : ab_X rom K cL_law 12 2 688 ls (.int x :: .ref a :: st) hp = (ab_ard rom 0 hp a x).bind (fun v => ab_X rom K cL_law 12 2 689 ls (.int v :: st) hp) := ax_iaload dL_law_688 rfl
theorem dL_law_689 : decode cL_law 689 = .ok (.aload_n 0, 1) := by decide +kernel
theorem sL_law_689 : ab_X rom K cL_law 12 2 689 (.ref a :: ls) st hp = ab_X rom K cL_law 12 2 690 (.ref a :: ls) (.ref a :: st) hp := ax_aload_n dL_law_689 rfl rfl
theorem dL_law_690 : decode cL_law 690 = .ok (.iload_n 3, 1) := by decide +kernel
theorem sL_law_690 : ab_X rom K cL_law 12 2 690 (v0 :: v1 :: v2 :: .int x :: ls) st hp = ab_X rom K cL_law 12 2 691 (v0 :: v1 :: v2 :: .int x :: ls) (.int x :: st) hp := ax_iload_n dL_law_690 rfl rfl
theorem dL_law_691 : decode cL_law 691 = .ok (.iconst 2, 1) := by decide +kernel
theorem sL_law_691 : ab_X rom K cL_law 12 2 691 ls st hp = ab_X rom K cL_law 12 2 692 ls (.int 2 :: st) hp := ax_iconst dL_law_691 (by decide) rfl
theorem dL_law_692 : decode cL_law 692 = .ok (.iadd, 1) := by decide +kernel
theorem sL_law_692 : ab_X rom K cL_law 12 2 692 ls (.int y :: .int x :: st) hp = ab_X rom K cL_law 12 2 693 ls (.int (x + y) :: st) hp := ax_iadd dL_law_692 rfl
theorem dL_law_693 : decode cL_law 693 = .ok (.iaload, 1) := by decide +kernel
theorem sL_law_693 : ab_X rom K cL_law 12 2 693 ls (.int x :: .ref a :: st) hp = (ab_ard rom 0 hp a x).bind (fun v => ab_X rom K cL_law 12 2 694 ls (.int v :: st) hp) := ax_iaload dL_law_693 rfl
theorem dL_law_694 : decode cL_law 694 = .ok (.invokevirtual 72, 3) := by decide +kernel
theorem sL_law_694_0 : ab_X rom K cL_law 12 2 694 ls [w2, w1, .ref a] hp = if ab_iso hp a 7 = true then (K 232 (.ref a :: [w1, w2]) hp).bind (fun o => ab_X rom K cL_law 12 2 697 ls (o.1.toList ++ []) o.2) else none := ay_virtual (as := [w1, w2]) (st := []) dL_law_694 kc_12_72 rfl rfl (Nat.le_of_ble_eq_true rfl)
theorem sL_law_694_1 : ab_X rom K cL_law 12 2 694 ls [w2, w1, .ref a, v0] hp = if ab_iso hp a 7 = true then (K 232 (.ref a :: [w1, w2]) hp).bind (fun o => ab_X rom K cL_law 12 2 697 ls (o.1.toList ++ [v0]) o.2) else none := ay_virtual (as := [w1, w2]) (st := [v0]) dL_law_694 kc_12_72 rfl rfl (Nat.le_of_ble_eq_true rfl)
theorem sL_law_694_2 : ab_X rom K cL_law 12 2 694 ls [w2, w1, .ref a, v0, v1] hp = if ab_iso hp a 7 = true then (K 232 (.ref a :: [w1, w2]) hp).bind (fun o => ab_X rom K cL_law 12 2 697 ls (o.1.toList ++ [v0, v1]) o.2) else none := ay_virtual (as := [w1, w2]) (st := [v0, v1]) dL_law_694 kc_12_72 rfl rfl (Nat.le_of_ble_eq_true rfl)
theorem sL_law_694_3 : ab_X rom K cL_law 12 2 694 ls [w2, w1, .ref a, v0, v1, v2] hp = if ab_iso hp a 7 = true then (K 232 (.ref a :: [w1, w2]) hp).bind (fun o => ab_X rom K cL_law 12 2 697 ls (o.1.toList ++ [v0, v1, v2]) o.2) else none := ay_virtual (as := [w1, w2]) (st := [v0, v1, v2]) dL_law_694 kc_12_72 rfl rfl (Nat.le_of_ble_eq_true rfl)
theorem dL_law_697 : decode cL_law 697 = .ok (.if_icmp .eq 787, 3) := by decide +kernel
theorem sL_law_697 : ab_X rom K cL_law 12 2 697 ls (.int y :: .int x :: st) hp = if x = y then ab_X rom K cL_law 12 2 1484 ls st hp else ab_X rom K cL_law 12 2 700 ls st hp := ax_icmp_eq dL_law_697 (by decide) rfl
theorem dL_law_702 : decode cL_law 702 = .ok (.aload_n 1, 1) := by decide +kernel
theorem sL_law_702 : ab_X rom K cL_law 12 2 702 (v0 :: .ref a :: ls) st hp = ab_X rom K cL_law 12 2 703 (v0 :: .ref a :: ls) (.ref a :: st) hp := ax_aload_n dL_law_702 rfl rfl
theorem dL_law_703 : decode cL_law 703 = .ok (.aload_n 0, 1) := by decide +kernel
theorem sL_law_703 : ab_X rom K cL_law 12 2 703 (.ref a :: ls) st hp = ab_X rom K cL_law 12 2 704 (.ref a :: ls) (.ref a :: st) hp := ax_aload_n dL_law_703 rfl rfl
theorem dL_law_704 : decode cL_law 704 = .ok (.iload_n 3, 1) := by decide +kernel
theorem sL_law_704 : ab_X rom K cL_law 12 2 704 (v0 :: v1 :: v2 :: .int x :: ls) st hp = ab_X rom K cL_law 12 2 705 (v0 :: v1 :: v2 :: .int x :: ls) (.int x :: st) hp := ax_iload_n dL_law_704 rfl rfl
theorem dL_law_705 : decode cL_law 705 = .ok (.iconst 1, 1) := by decide +kernel
theorem sL_law_705 : ab_X rom K cL_law 12 2 705 ls st hp = ab_X rom K cL_law 12 2 706 ls (.int 1 :: st) hp := ax_iconst dL_law_705 (by decide) rfl
theorem dL_law_706 : decode cL_law 706 = .ok (.iadd, 1) := by decide +kernel
theorem sL_law_706 : ab_X rom K cL_law 12 2 706 ls (.int y :: .int x :: st) hp = ab_X rom K cL_law 12 2 707 ls (.int (x + y) :: st) hp := ax_iadd dL_law_706 rfl
theorem dL_law_707 : decode cL_law 707 = .ok (.iaload, 1) := by decide +kernel
theorem sL_law_707 : ab_X rom K cL_law 12 2 707 ls (.int x :: .ref a :: st) hp = (ab_ard rom 0 hp a x).bind (fun v => ab_X rom K cL_law 12 2 708 ls (.int v :: st) hp) := ax_iaload dL_law_707 rfl
theorem dL_law_708 : decode cL_law 708 = .ok (.aload_n 0, 1) := by decide +kernel
theorem sL_law_708 : ab_X rom K cL_law 12 2 708 (.ref a :: ls) st hp = ab_X rom K cL_law 12 2 709 (.ref a :: ls) (.ref a :: st) hp := ax_aload_n dL_law_708 rfl rfl
theorem dL_law_709 : decode cL_law 709 = .ok (.iload_n 3, 1) := by decide +kernel
theorem sL_law_709 : ab_X rom K cL_law 12 2 709 (v0 :: v1 :: v2 :: .int x :: ls) st hp = ab_X rom K cL_law 12 2 710 (v0 :: v1 :: v2 :: .int x :: ls) (.int x :: st) hp := ax_iload_n dL_law_709 rfl rfl
theorem dL_law_710 : decode cL_law 710 = .ok (.iconst 2, 1) := by decide +kernel
theorem sL_law_710 : ab_X rom K cL_law 12 2 710 ls st hp = ab_X rom K cL_law 12 2 711 ls (.int 2 :: st) hp := ax_iconst dL_law_710 (by decide) rfl
theorem dL_law_711 : decode cL_law 711 = .ok (.iadd, 1) := by decide +kernel
theorem sL_law_711 : ab_X rom K cL_law 12 2 711 ls (.int y :: .int x :: st) hp = ab_X rom K cL_law 12 2 712 ls (.int (x + y) :: st) hp := ax_iadd dL_law_711 rfl
theorem dL_law_712 : decode cL_law 712 = .ok (.iaload, 1) := by decide +kernel
theorem sL_law_712 : ab_X rom K cL_law 12 2 712 ls (.int x :: .ref a :: st) hp = (ab_ard rom 0 hp a x).bind (fun v => ab_X rom K cL_law 12 2 713 ls (.int v :: st) hp) := ax_iaload dL_law_712 rfl
theorem dL_law_713 : decode cL_law 713 = .ok (.invokevirtual 73, 3) := by decide +kernel
theorem sL_law_713_0 : ab_X rom K cL_law 12 2 713 ls [w2, w1, .ref a] hp = if ab_iso hp a 6 = true then (K 99 (.ref a :: [w1, w2]) hp).bind (fun o => ab_X rom K cL_law 12 2 716 ls (o.1.toList ++ []) o.2) else none := ay_virtual (as := [w1, w2]) (st := []) dL_law_713 kc_12_73 rfl rfl (Nat.le_of_ble_eq_true rfl)
theorem sL_law_713_1 : ab_X rom K cL_law 12 2 713 ls [w2, w1, .ref a, v0] hp = if ab_iso hp a 6 = true then (K 99 (.ref a :: [w1, w2]) hp).bind (fun o => ab_X rom K cL_law 12 2 716 ls (o.1.toList ++ [v0]) o.2) else none := ay_virtual (as := [w1, w2]) (st := [v0]) dL_law_713 kc_12_73 rfl rfl (Nat.le_of_ble_eq_true rfl)
theorem sL_law_713_2 : ab_X rom K cL_law 12 2 713 ls [w2, w1, .ref a, v0, v1] hp = if ab_iso hp a 6 = true then (K 99 (.ref a :: [w1, w2]) hp).bind (fun o => ab_X rom K cL_law 12 2 716 ls (o.1.toList ++ [v0, v1]) o.2) else none := ay_virtual (as := [w1, w2]) (st := [v0, v1]) dL_law_713 kc_12_73 rfl rfl (Nat.le_of_ble_eq_true rfl)
theorem sL_law_713_3 : ab_X rom K cL_law 12 2 713 ls [w2, w1, .ref a, v0, v1, v2] hp = if ab_iso hp a 6 = true then (K 99 (.ref a :: [w1, w2]) hp).bind (fun o => ab_X rom K cL_law 12 2 716 ls (o.1.toList ++ [v0, v1, v2]) o.2) else none := ay_virtual (as := [w1, w2]) (st := [v0, v1, v2]) dL_law_713 kc_12_73 rfl rfl (Nat.le_of_ble_eq_true rfl)
theorem dL_law_716 : decode cL_law 716 = .ok (.aload_n 2, 1) := by decide +kernel
theorem sL_law_716 : ab_X rom K cL_law 12 2 716 (v0 :: v1 :: .ref a :: ls) st hp = ab_X rom K cL_law 12 2 717 (v0 :: v1 :: .ref a :: ls) (.ref a :: st) hp := ax_aload_n dL_law_716 rfl rfl
theorem dL_law_717 : decode cL_law 717 = .ok (.aload_n 0, 1) := by decide +kernel
theorem sL_law_717 : ab_X rom K cL_law 12 2 717 (.ref a :: ls) st hp = ab_X rom K cL_law 12 2 718 (.ref a :: ls) (.ref a :: st) hp := ax_aload_n dL_law_717 rfl rfl
theorem dL_law_718 : decode cL_law 718 = .ok (.iload_n 3, 1) := by decide +kernel
theorem sL_law_718 : ab_X rom K cL_law 12 2 718 (v0 :: v1 :: v2 :: .int x :: ls) st hp = ab_X rom K cL_law 12 2 719 (v0 :: v1 :: v2 :: .int x :: ls) (.int x :: st) hp := ax_iload_n dL_law_718 rfl rfl
theorem dL_law_719 : decode cL_law 719 = .ok (.iconst 1, 1) := by decide +kernel
theorem sL_law_719 : ab_X rom K cL_law 12 2 719 ls st hp = ab_X rom K cL_law 12 2 720 ls (.int 1 :: st) hp := ax_iconst dL_law_719 (by decide) rfl
theorem dL_law_720 : decode cL_law 720 = .ok (.iadd, 1) := by decide +kernel
theorem sL_law_720 : ab_X rom K cL_law 12 2 720 ls (.int y :: .int x :: st) hp = ab_X rom K cL_law 12 2 721 ls (.int (x + y) :: st) hp := ax_iadd dL_law_720 rfl
theorem dL_law_721 : decode cL_law 721 = .ok (.iaload, 1) := by decide +kernel
theorem sL_law_721 : ab_X rom K cL_law 12 2 721 ls (.int x :: .ref a :: st) hp = (ab_ard rom 0 hp a x).bind (fun v => ab_X rom K cL_law 12 2 722 ls (.int v :: st) hp) := ax_iaload dL_law_721 rfl
theorem dL_law_722 : decode cL_law 722 = .ok (.aload_n 0, 1) := by decide +kernel
theorem sL_law_722 : ab_X rom K cL_law 12 2 722 (.ref a :: ls) st hp = ab_X rom K cL_law 12 2 723 (.ref a :: ls) (.ref a :: st) hp := ax_aload_n dL_law_722 rfl rfl
theorem dL_law_723 : decode cL_law 723 = .ok (.iload_n 3, 1) := by decide +kernel
theorem sL_law_723 : ab_X rom K cL_law 12 2 723 (v0 :: v1 :: v2 :: .int x :: ls) st hp = ab_X rom K cL_law 12 2 724 (v0 :: v1 :: v2 :: .int x :: ls) (.int x :: st) hp := ax_iload_n dL_law_723 rfl rfl
theorem dL_law_724 : decode cL_law 724 = .ok (.iconst 2, 1) := by decide +kernel
theorem sL_law_724 : ab_X rom K cL_law 12 2 724 ls st hp = ab_X rom K cL_law 12 2 725 ls (.int 2 :: st) hp := ax_iconst dL_law_724 (by decide) rfl
theorem dL_law_725 : decode cL_law 725 = .ok (.iadd, 1) := by decide +kernel
theorem sL_law_725 : ab_X rom K cL_law 12 2 725 ls (.int y :: .int x :: st) hp = ab_X rom K cL_law 12 2 726 ls (.int (x + y) :: st) hp := ax_iadd dL_law_725 rfl
theorem dL_law_726 : decode cL_law 726 = .ok (.iaload, 1) := by decide +kernel
theorem sL_law_726 : ab_X rom K cL_law 12 2 726 ls (.int x :: .ref a :: st) hp = (ab_ard rom 0 hp a x).bind (fun v => ab_X rom K cL_law 12 2 727 ls (.int v :: st) hp) := ax_iaload dL_law_726 rfl
theorem dL_law_727 : decode cL_law 727 = .ok (.invokevirtual 76, 3) := by decide +kernel
theorem sL_law_727_0 : ab_X rom K cL_law 12 2 727 ls [w2, w1, .ref a] hp = if ab_iso hp a 7 = true then (K 160 (.ref a :: [w1, w2]) hp).bind (fun o => ab_X rom K cL_law 12 2 730 ls (o.1.toList ++ []) o.2) else none := ay_virtual (as := [w1, w2]) (st := []) dL_law_727 kc_12_76 rfl rfl (Nat.le_of_ble_eq_true rfl)
theorem sL_law_727_1 : ab_X rom K cL_law 12 2 727 ls [w2, w1, .ref a, v0] hp = if ab_iso hp a 7 = true then (K 160 (.ref a :: [w1, w2]) hp).bind (fun o => ab_X rom K cL_law 12 2 730 ls (o.1.toList ++ [v0]) o.2) else none := ay_virtual (as := [w1, w2]) (st := [v0]) dL_law_727 kc_12_76 rfl rfl (Nat.le_of_ble_eq_true rfl)
theorem sL_law_727_2 : ab_X rom K cL_law 12 2 727 ls [w2, w1, .ref a, v0, v1] hp = if ab_iso hp a 7 = true then (K 160 (.ref a :: [w1, w2]) hp).bind (fun o => ab_X rom K cL_law 12 2 730 ls (o.1.toList ++ [v0, v1]) o.2) else none := ay_virtual (as := [w1, w2]) (st := [v0, v1]) dL_law_727 kc_12_76 rfl rfl (Nat.le_of_ble_eq_true rfl)
theorem sL_law_727_3 : ab_X rom K cL_law 12 2 727 ls [w2, w1, .ref a, v0, v1, v2] hp = if ab_iso hp a 7 = true then (K 160 (.ref a :: [w1, w2]) hp).bind (fun o => ab_X rom K cL_law 12 2 730 ls (o.1.toList ++ [v0, v1, v2]) o.2) else none := ay_virtual (as := [w1, w2]) (st := [v0, v1, v2]) dL_law_727 kc_12_76 rfl rfl (Nat.le_of_ble_eq_true rfl)
theorem dL_law_730 : decode cL_law 730 = .ok (.if_icmp .eq 754, 3) := by decide +kernel
theorem sL_law_730 : ab_X rom K cL_law 12 2 730 ls (.int y :: .int x :: st) hp = if x = y then ab_X rom K cL_law 12 2 1484 ls st hp else ab_X rom K cL_law 12 2 733 ls st hp := ax_icmp_eq dL_law_730 (by decide) rfl
theorem dL_law_735 : decode cL_law 735 = .ok (.aload_n 1, 1) := by decide +kernel
theorem sL_law_735 : ab_X rom K cL_law 12 2 735 (v0 :: .ref a :: ls) st hp = ab_X rom K cL_law 12 2 736 (v0 :: .ref a :: ls) (.ref a :: st) hp := ax_aload_n dL_law_735 rfl rfl
theorem dL_law_736 : decode cL_law 736 = .ok (.aload_n 0, 1) := by decide +kernel
theorem sL_law_736 : ab_X rom K cL_law 12 2 736 (.ref a :: ls) st hp = ab_X rom K cL_law 12 2 737 (.ref a :: ls) (.ref a :: st) hp := ax_aload_n dL_law_736 rfl rfl
theorem dL_law_737 : decode cL_law 737 = .ok (.iload_n 3, 1) := by decide +kernel
theorem sL_law_737 : ab_X rom K cL_law 12 2 737 (v0 :: v1 :: v2 :: .int x :: ls) st hp = ab_X rom K cL_law 12 2 738 (v0 :: v1 :: v2 :: .int x :: ls) (.int x :: st) hp := ax_iload_n dL_law_737 rfl rfl
theorem dL_law_738 : decode cL_law 738 = .ok (.iconst 1, 1) := by decide +kernel
theorem sL_law_738 : ab_X rom K cL_law 12 2 738 ls st hp = ab_X rom K cL_law 12 2 739 ls (.int 1 :: st) hp := ax_iconst dL_law_738 (by decide) rfl
theorem dL_law_739 : decode cL_law 739 = .ok (.iadd, 1) := by decide +kernel
theorem sL_law_739 : ab_X rom K cL_law 12 2 739 ls (.int y :: .int x :: st) hp = ab_X rom K cL_law 12 2 740 ls (.int (x + y) :: st) hp := ax_iadd dL_law_739 rfl
theorem dL_law_740 : decode cL_law 740 = .ok (.iaload, 1) := by decide +kernel
theorem sL_law_740 : ab_X rom K cL_law 12 2 740 ls (.int x :: .ref a :: st) hp = (ab_ard rom 0 hp a x).bind (fun v => ab_X rom K cL_law 12 2 741 ls (.int v :: st) hp) := ax_iaload dL_law_740 rfl
theorem dL_law_741 : decode cL_law 741 = .ok (.aload_n 0, 1) := by decide +kernel
theorem sL_law_741 : ab_X rom K cL_law 12 2 741 (.ref a :: ls) st hp = ab_X rom K cL_law 12 2 742 (.ref a :: ls) (.ref a :: st) hp := ax_aload_n dL_law_741 rfl rfl
theorem dL_law_742 : decode cL_law 742 = .ok (.iload_n 3, 1) := by decide +kernel
theorem sL_law_742 : ab_X rom K cL_law 12 2 742 (v0 :: v1 :: v2 :: .int x :: ls) st hp = ab_X rom K cL_law 12 2 743 (v0 :: v1 :: v2 :: .int x :: ls) (.int x :: st) hp := ax_iload_n dL_law_742 rfl rfl
theorem dL_law_743 : decode cL_law 743 = .ok (.iconst 2, 1) := by decide +kernel
theorem sL_law_743 : ab_X rom K cL_law 12 2 743 ls st hp = ab_X rom K cL_law 12 2 744 ls (.int 2 :: st) hp := ax_iconst dL_law_743 (by decide) rfl
theorem dL_law_744 : decode cL_law 744 = .ok (.iadd, 1) := by decide +kernel
theorem sL_law_744 : ab_X rom K cL_law 12 2 744 ls (.int y :: .int x :: st) hp = ab_X rom K cL_law 12 2 745 ls (.int (x + y) :: st) hp := ax_iadd dL_law_744 rfl
theorem dL_law_745 : decode cL_law 745 = .ok (.iaload, 1) := by decide +kernel
theorem sL_law_745 : ab_X rom K cL_law 12 2 745 ls (.int x :: .ref a :: st) hp = (ab_ard rom 0 hp a x).bind (fun v => ab_X rom K cL_law 12 2 746 ls (.int v :: st) hp) := ax_iaload dL_law_745 rfl
theorem dL_law_746 : decode cL_law 746 = .ok (.invokevirtual 77, 3) := by decide +kernel
theorem sL_law_746_0 : ab_X rom K cL_law 12 2 746 ls [w2, w1, .ref a] hp = if ab_iso hp a 6 = true then (K 126 (.ref a :: [w1, w2]) hp).bind (fun o => ab_X rom K cL_law 12 2 749 ls (o.1.toList ++ []) o.2) else none := ay_virtual (as := [w1, w2]) (st := []) dL_law_746 kc_12_77 rfl rfl (Nat.le_of_ble_eq_true rfl)
theorem sL_law_746_1 : ab_X rom K cL_law 12 2 746 ls [w2, w1, .ref a, v0] hp = if ab_iso hp a 6 = true then (K 126 (.ref a :: [w1, w2]) hp).bind (fun o => ab_X rom K cL_law 12 2 749 ls (o.1.toList ++ [v0]) o.2) else none := ay_virtual (as := [w1, w2]) (st := [v0]) dL_law_746 kc_12_77 rfl rfl (Nat.le_of_ble_eq_true rfl)
theorem sL_law_746_2 : ab_X rom K cL_law 12 2 746 ls [w2, w1, .ref a, v0, v1] hp = if ab_iso hp a 6 = true then (K 126 (.ref a :: [w1, w2]) hp).bind (fun o => ab_X rom K cL_law 12 2 749 ls (o.1.toList ++ [v0, v1]) o.2) else none := ay_virtual (as := [w1, w2]) (st := [v0, v1]) dL_law_746 kc_12_77 rfl rfl (Nat.le_of_ble_eq_true rfl)
theorem sL_law_746_3 : ab_X rom K cL_law 12 2 746 ls [w2, w1, .ref a, v0, v1, v2] hp = if ab_iso hp a 6 = true then (K 126 (.ref a :: [w1, w2]) hp).bind (fun o => ab_X rom K cL_law 12 2 749 ls (o.1.toList ++ [v0, v1, v2]) o.2) else none := ay_virtual (as := [w1, w2]) (st := [v0, v1, v2]) dL_law_746 kc_12_77 rfl rfl (Nat.le_of_ble_eq_true rfl)
theorem dL_law_749 : decode cL_law 749 = .ok (.aload_n 2, 1) := by decide +kernel
theorem sL_law_749 : ab_X rom K cL_law 12 2 749 (v0 :: v1 :: .ref a :: ls) st hp = ab_X rom K cL_law 12 2 750 (v0 :: v1 :: .ref a :: ls) (.ref a :: st) hp := ax_aload_n dL_law_749 rfl rfl
theorem dL_law_750 : decode cL_law 750 = .ok (.aload_n 0, 1) := by decide +kernel
theorem sL_law_750 : ab_X rom K cL_law 12 2 750 (.ref a :: ls) st hp = ab_X rom K cL_law 12 2 751 (.ref a :: ls) (.ref a :: st) hp := ax_aload_n dL_law_750 rfl rfl
theorem dL_law_751 : decode cL_law 751 = .ok (.iload_n 3, 1) := by decide +kernel
theorem sL_law_751 : ab_X rom K cL_law 12 2 751 (v0 :: v1 :: v2 :: .int x :: ls) st hp = ab_X rom K cL_law 12 2 752 (v0 :: v1 :: v2 :: .int x :: ls) (.int x :: st) hp := ax_iload_n dL_law_751 rfl rfl
theorem dL_law_752 : decode cL_law 752 = .ok (.iconst 1, 1) := by decide +kernel
theorem sL_law_752 : ab_X rom K cL_law 12 2 752 ls st hp = ab_X rom K cL_law 12 2 753 ls (.int 1 :: st) hp := ax_iconst dL_law_752 (by decide) rfl
theorem dL_law_753 : decode cL_law 753 = .ok (.iadd, 1) := by decide +kernel
theorem sL_law_753 : ab_X rom K cL_law 12 2 753 ls (.int y :: .int x :: st) hp = ab_X rom K cL_law 12 2 754 ls (.int (x + y) :: st) hp := ax_iadd dL_law_753 rfl
theorem dL_law_754 : decode cL_law 754 = .ok (.iaload, 1) := by decide +kernel
theorem sL_law_754 : ab_X rom K cL_law 12 2 754 ls (.int x :: .ref a :: st) hp = (ab_ard rom 0 hp a x).bind (fun v => ab_X rom K cL_law 12 2 755 ls (.int v :: st) hp) := ax_iaload dL_law_754 rfl
theorem dL_law_755 : decode cL_law 755 = .ok (.aload_n 0, 1) := by decide +kernel
theorem sL_law_755 : ab_X rom K cL_law 12 2 755 (.ref a :: ls) st hp = ab_X rom K cL_law 12 2 756 (.ref a :: ls) (.ref a :: st) hp := ax_aload_n dL_law_755 rfl rfl
theorem dL_law_756 : decode cL_law 756 = .ok (.iload_n 3, 1) := by decide +kernel
theorem sL_law_756 : ab_X rom K cL_law 12 2 756 (v0 :: v1 :: v2 :: .int x :: ls) st hp = ab_X rom K cL_law 12 2 757 (v0 :: v1 :: v2 :: .int x :: ls) (.int x :: st) hp := ax_iload_n dL_law_756 rfl rfl
theorem dL_law_757 : decode cL_law 757 = .ok (.iconst 2, 1) := by decide +kernel
theorem sL_law_757 : ab_X rom K cL_law 12 2 757 ls st hp = ab_X rom K cL_law 12 2 758 ls (.int 2 :: st) hp := ax_iconst dL_law_757 (by decide) rfl
theorem dL_law_758 : decode cL_law 758 = .ok (.iadd, 1) := by decide +kernel
theorem sL_law_758 : ab_X rom K cL_law 12 2 758 ls (.int y :: .int x :: st) hp = ab_X rom K cL_law 12 2 759 ls (.int (x + y) :: st) hp := ax_iadd dL_law_758 rfl
theorem dL_law_759 : decode cL_law 759 = .ok (.iaload, 1) := by decide +kernel
theorem sL_law_759 : ab_X rom K cL_law 12 2 759 ls (.int x :: .ref a :: st) hp = (ab_ard rom 0 hp a x).bind (fun v => ab_X rom K cL_law 12 2 760 ls (.int v :: st) hp) := ax_iaload dL_law_759 rfl
theorem dL_law_760 : decode cL_law 760 = .ok (.invokevirtual 80, 3) := by decide +kernel
theorem sL_law_760_0 : ab_X rom K cL_law 12 2 760 ls [w2, w1, .ref a] hp = if ab_iso hp a 7 = true then (K 236 (.ref a :: [w1, w2]) hp).bind (fun o => ab_X rom K cL_law 12 2 763 ls (o.1.toList ++ []) o.2) else none := ay_virtual (as := [w1, w2]) (st := []) dL_law_760 kc_12_80 rfl rfl (Nat.le_of_ble_eq_true rfl)
theorem sL_law_760_1 : ab_X rom K cL_law 12 2 760 ls [w2, w1, .ref a, v0] hp = if ab_iso hp a 7 = true then (K 236 (.ref a :: [w1, w2]) hp).bind (fun o => ab_X rom K cL_law 12 2 763 ls (o.1.toList ++ [v0]) o.2) else none := ay_virtual (as := [w1, w2]) (st := [v0]) dL_law_760 kc_12_80 rfl rfl (Nat.le_of_ble_eq_true rfl)
theorem sL_law_760_2 : ab_X rom K cL_law 12 2 760 ls [w2, w1, .ref a, v0, v1] hp = if ab_iso hp a 7 = true then (K 236 (.ref a :: [w1, w2]) hp).bind (fun o => ab_X rom K cL_law 12 2 763 ls (o.1.toList ++ [v0, v1]) o.2) else none := ay_virtual (as := [w1, w2]) (st := [v0, v1]) dL_law_760 kc_12_80 rfl rfl (Nat.le_of_ble_eq_true rfl)
theorem sL_law_760_3 : ab_X rom K cL_law 12 2 760 ls [w2, w1, .ref a, v0, v1, v2] hp = if ab_iso hp a 7 = true then (K 236 (.ref a :: [w1, w2]) hp).bind (fun o => ab_X rom K cL_law 12 2 763 ls (o.1.toList ++ [v0, v1, v2]) o.2) else none := ay_virtual (as := [w1, w2]) (st := [v0, v1, v2]) dL_law_760 kc_12_80 rfl rfl (Nat.le_of_ble_eq_true rfl)
theorem dL_law_763 : decode cL_law 763 = .ok (.if_icmp .eq 721, 3) := by decide +kernel
theorem sL_law_763 : ab_X rom K cL_law 12 2 763 ls (.int y :: .int x :: st) hp = if x = y then ab_X rom K cL_law 12 2 1484 ls st hp else ab_X rom K cL_law 12 2 766 ls st hp := ax_icmp_eq dL_law_763 (by decide) rfl
theorem dL_law_768 : decode cL_law 768 = .ok (.aload_n 1, 1) := by decide +kernel
theorem sL_law_768 : ab_X rom K cL_law 12 2 768 (v0 :: .ref a :: ls) st hp = ab_X rom K cL_law 12 2 769 (v0 :: .ref a :: ls) (.ref a :: st) hp := ax_aload_n dL_law_768 rfl rfl
theorem dL_law_769 : decode cL_law 769 = .ok (.aload_n 0, 1) := by decide +kernel
theorem sL_law_769 : ab_X rom K cL_law 12 2 769 (.ref a :: ls) st hp = ab_X rom K cL_law 12 2 770 (.ref a :: ls) (.ref a :: st) hp := ax_aload_n dL_law_769 rfl rfl
theorem dL_law_770 : decode cL_law 770 = .ok (.iload_n 3, 1) := by decide +kernel
theorem sL_law_770 : ab_X rom K cL_law 12 2 770 (v0 :: v1 :: v2 :: .int x :: ls) st hp = ab_X rom K cL_law 12 2 771 (v0 :: v1 :: v2 :: .int x :: ls) (.int x :: st) hp := ax_iload_n dL_law_770 rfl rfl
theorem dL_law_771 : decode cL_law 771 = .ok (.iconst 1, 1) := by decide +kernel
theorem sL_law_771 : ab_X rom K cL_law 12 2 771 ls st hp = ab_X rom K cL_law 12 2 772 ls (.int 1 :: st) hp := ax_iconst dL_law_771 (by decide) rfl
theorem dL_law_772 : decode cL_law 772 = .ok (.iadd, 1) := by decide +kernel
theorem sL_law_772 : ab_X rom K cL_law 12 2 772 ls (.int y :: .int x :: st) hp = ab_X rom K cL_law 12 2 773 ls (.int (x + y) :: st) hp := ax_iadd dL_law_772 rfl
theorem dL_law_773 : decode cL_law 773 = .ok (.iaload, 1) := by decide +kernel
theorem sL_law_773 : ab_X rom K cL_law 12 2 773 ls (.int x :: .ref a :: st) hp = (ab_ard rom 0 hp a x).bind (fun v => ab_X rom K cL_law 12 2 774 ls (.int v :: st) hp) := ax_iaload dL_law_773 rfl
theorem dL_law_774 : decode cL_law 774 = .ok (.aload_n 0, 1) := by decide +kernel
theorem sL_law_774 : ab_X rom K cL_law 12 2 774 (.ref a :: ls) st hp = ab_X rom K cL_law 12 2 775 (.ref a :: ls) (.ref a :: st) hp := ax_aload_n dL_law_774 rfl rfl
theorem dL_law_775 : decode cL_law 775 = .ok (.iload_n 3, 1) := by decide +kernel
theorem sL_law_775 : ab_X rom K cL_law 12 2 775 (v0 :: v1 :: v2 :: .int x :: ls) st hp = ab_X rom K cL_law 12 2 776 (v0 :: v1 :: v2 :: .int x :: ls) (.int x :: st) hp := ax_iload_n dL_law_775 rfl rfl
theorem dL_law_776 : decode cL_law 776 = .ok (.iconst 2, 1) := by decide +kernel
theorem sL_law_776 : ab_X rom K cL_law 12 2 776 ls st hp = ab_X rom K cL_law 12 2 777 ls (.int 2 :: st) hp := ax_iconst dL_law_776 (by decide) rfl
theorem dL_law_777 : decode cL_law 777 = .ok (.iadd, 1) := by decide +kernel
theorem sL_law_777 : ab_X rom K cL_law 12 2 777 ls (.int y :: .int x :: st) hp = ab_X rom K cL_law 12 2 778 ls (.int (x + y) :: st) hp := ax_iadd dL_law_777 rfl
theorem dL_law_778 : decode cL_law 778 = .ok (.iaload, 1) := by decide +kernel
theorem sL_law_778 : ab_X rom K cL_law 12 2 778 ls (.int x :: .ref a :: st) hp = (ab_ard rom 0 hp a x).bind (fun v => ab_X rom K cL_law 12 2 779 ls (.int v :: st) hp) := ax_iaload dL_law_778 rfl
theorem dL_law_779 : decode cL_law 779 = .ok (.invokevirtual 81, 3) := by decide +kernel
theorem sL_law_779_0 : ab_X rom K cL_law 12 2 779 ls [w2, w1, .ref a] hp = if ab_iso hp a 6 = true then (K 107 (.ref a :: [w1, w2]) hp).bind (fun o => ab_X rom K cL_law 12 2 782 ls (o.1.toList ++ []) o.2) else none := ay_virtual (as := [w1, w2]) (st := []) dL_law_779 kc_12_81 rfl rfl (Nat.le_of_ble_eq_true rfl)
theorem sL_law_779_1 : ab_X rom K cL_law 12 2 779 ls [w2, w1, .ref a, v0] hp = if ab_iso hp a 6 = true then (K 107 (.ref a :: [w1, w2]) hp).bind (fun o => ab_X rom K cL_law 12 2 782 ls (o.1.toList ++ [v0]) o.2) else none := ay_virtual (as := [w1, w2]) (st := [v0]) dL_law_779 kc_12_81 rfl rfl (Nat.le_of_ble_eq_true rfl)
theorem sL_law_779_2 : ab_X rom K cL_law 12 2 779 ls [w2, w1, .ref a, v0, v1] hp = if ab_iso hp a 6 = true then (K 107 (.ref a :: [w1, w2]) hp).bind (fun o => ab_X rom K cL_law 12 2 782 ls (o.1.toList ++ [v0, v1]) o.2) else none := ay_virtual (as := [w1, w2]) (st := [v0, v1]) dL_law_779 kc_12_81 rfl rfl (Nat.le_of_ble_eq_true rfl)
theorem sL_law_779_3 : ab_X rom K cL_law 12 2 779 ls [w2, w1, .ref a, v0, v1, v2] hp = if ab_iso hp a 6 = true then (K 107 (.ref a :: [w1, w2]) hp).bind (fun o => ab_X rom K cL_law 12 2 782 ls (o.1.toList ++ [v0, v1, v2]) o.2) else none := ay_virtual (as := [w1, w2]) (st := [v0, v1, v2]) dL_law_779 kc_12_81 rfl rfl (Nat.le_of_ble_eq_true rfl)
theorem dL_law_782 : decode cL_law 782 = .ok (.aload_n 2, 1) := by decide +kernel
theorem sL_law_782 : ab_X rom K cL_law 12 2 782 (v0 :: v1 :: .ref a :: ls) st hp = ab_X rom K cL_law 12 2 783 (v0 :: v1 :: .ref a :: ls) (.ref a :: st) hp := ax_aload_n dL_law_782 rfl rfl
theorem dL_law_783 : decode cL_law 783 = .ok (.aload_n 0, 1) := by decide +kernel
theorem sL_law_783 : ab_X rom K cL_law 12 2 783 (.ref a :: ls) st hp = ab_X rom K cL_law 12 2 784 (.ref a :: ls) (.ref a :: st) hp := ax_aload_n dL_law_783 rfl rfl
theorem dL_law_784 : decode cL_law 784 = .ok (.iload_n 3, 1) := by decide +kernel
theorem sL_law_784 : ab_X rom K cL_law 12 2 784 (v0 :: v1 :: v2 :: .int x :: ls) st hp = ab_X rom K cL_law 12 2 785 (v0 :: v1 :: v2 :: .int x :: ls) (.int x :: st) hp := ax_iload_n dL_law_784 rfl rfl
theorem dL_law_785 : decode cL_law 785 = .ok (.iconst 1, 1) := by decide +kernel
theorem sL_law_785 : ab_X rom K cL_law 12 2 785 ls st hp = ab_X rom K cL_law 12 2 786 ls (.int 1 :: st) hp := ax_iconst dL_law_785 (by decide) rfl
theorem dL_law_786 : decode cL_law 786 = .ok (.iadd, 1) := by decide +kernel
theorem sL_law_786 : ab_X rom K cL_law 12 2 786 ls (.int y :: .int x :: st) hp = ab_X rom K cL_law 12 2 787 ls (.int (x + y) :: st) hp := ax_iadd dL_law_786 rfl
theorem dL_law_787 : decode cL_law 787 = .ok (.iaload, 1) := by decide +kernel
theorem sL_law_787 : ab_X rom K cL_law 12 2 787 ls (.int x :: .ref a :: st) hp = (ab_ard rom 0 hp a x).bind (fun v => ab_X rom K cL_law 12 2 788 ls (.int v :: st) hp) := ax_iaload dL_law_787 rfl
theorem dL_law_788 : decode cL_law 788 = .ok (.aload_n 0, 1) := by decide +kernel
theorem sL_law_788 : ab_X rom K cL_law 12 2 788 (.ref a :: ls) st hp = ab_X rom K cL_law 12 2 789 (.ref a :: ls) (.ref a :: st) hp := ax_aload_n dL_law_788 rfl rfl
theorem dL_law_789 : decode cL_law 789 = .ok (.iload_n 3, 1) := by decide +kernel
theorem sL_law_789 : ab_X rom K cL_law 12 2 789 (v0 :: v1 :: v2 :: .int x :: ls) st hp = ab_X rom K cL_law 12 2 790 (v0 :: v1 :: v2 :: .int x :: ls) (.int x :: st) hp := ax_iload_n dL_law_789 rfl rfl
theorem dL_law_790 : decode cL_law 790 = .ok (.iconst 2, 1) := by decide +kernel
theorem sL_law_790 : ab_X rom K cL_law 12 2 790 ls st hp = ab_X rom K cL_law 12 2 791 ls (.int 2 :: st) hp := ax_iconst dL_law_790 (by decide) rfl
theorem dL_law_791 : decode cL_law 791 = .ok (.iadd, 1) := by decide +kernel
theorem sL_law_791 : ab_X rom K cL_law 12 2 791 ls (.int y :: .int x :: st) hp = ab_X rom K cL_law 12 2 792 ls (.int (x + y) :: st) hp := ax_iadd dL_law_791 rfl
theorem dL_law_792 : decode cL_law 792 = .ok (.iaload, 1) := by decide +kernel
theorem sL_law_792 : ab_X rom K cL_law 12 2 792 ls (.int x :: .ref a :: st) hp = (ab_ard rom 0 hp a x).bind (fun v => ab_X rom K cL_law 12 2 793 ls (.int v :: st) hp) := ax_iaload dL_law_792 rfl
theorem dL_law_793 : decode cL_law 793 = .ok (.invokevirtual 84, 3) := by decide +kernel
theorem sL_law_793_0 : ab_X rom K cL_law 12 2 793 ls [w2, w1, .ref a] hp = if ab_iso hp a 7 = true then (K 198 (.ref a :: [w1, w2]) hp).bind (fun o => ab_X rom K cL_law 12 2 796 ls (o.1.toList ++ []) o.2) else none := ay_virtual (as := [w1, w2]) (st := []) dL_law_793 kc_12_84 rfl rfl (Nat.le_of_ble_eq_true rfl)
theorem sL_law_793_1 : ab_X rom K cL_law 12 2 793 ls [w2, w1, .ref a, v0] hp = if ab_iso hp a 7 = true then (K 198 (.ref a :: [w1, w2]) hp).bind (fun o => ab_X rom K cL_law 12 2 796 ls (o.1.toList ++ [v0]) o.2) else none := ay_virtual (as := [w1, w2]) (st := [v0]) dL_law_793 kc_12_84 rfl rfl (Nat.le_of_ble_eq_true rfl)
theorem sL_law_793_2 : ab_X rom K cL_law 12 2 793 ls [w2, w1, .ref a, v0, v1] hp = if ab_iso hp a 7 = true then (K 198 (.ref a :: [w1, w2]) hp).bind (fun o => ab_X rom K cL_law 12 2 796 ls (o.1.toList ++ [v0, v1]) o.2) else none := ay_virtual (as := [w1, w2]) (st := [v0, v1]) dL_law_793 kc_12_84 rfl rfl (Nat.le_of_ble_eq_true rfl)
theorem sL_law_793_3 : ab_X rom K cL_law 12 2 793 ls [w2, w1, .ref a, v0, v1, v2] hp = if ab_iso hp a 7 = true then (K 198 (.ref a :: [w1, w2]) hp).bind (fun o => ab_X rom K cL_law 12 2 796 ls (o.1.toList ++ [v0, v1, v2]) o.2) else none := ay_virtual (as := [w1, w2]) (st := [v0, v1, v2]) dL_law_793 kc_12_84 rfl rfl (Nat.le_of_ble_eq_true rfl)
theorem dL_law_796 : decode cL_law 796 = .ok (.if_icmp .eq 688, 3) := by decide +kernel
theorem sL_law_796 : ab_X rom K cL_law 12 2 796 ls (.int y :: .int x :: st) hp = if x = y then ab_X rom K cL_law 12 2 1484 ls st hp else ab_X rom K cL_law 12 2 799 ls st hp := ax_icmp_eq dL_law_796 (by decide) rfl
theorem dL_law_801 : decode cL_law 801 = .ok (.aload_n 1, 1) := by decide +kernel
theorem sL_law_801 : ab_X rom K cL_law 12 2 801 (v0 :: .ref a :: ls) st hp = ab_X rom K cL_law 12 2 802 (v0 :: .ref a :: ls) (.ref a :: st) hp := ax_aload_n dL_law_801 rfl rfl
theorem dL_law_802 : decode cL_law 802 = .ok (.aload_n 0, 1) := by decide +kernel
theorem sL_law_802 : ab_X rom K cL_law 12 2 802 (.ref a :: ls) st hp = ab_X rom K cL_law 12 2 803 (.ref a :: ls) (.ref a :: st) hp := ax_aload_n dL_law_802 rfl rfl
theorem dL_law_803 : decode cL_law 803 = .ok (.iload_n 3, 1) := by decide +kernel
theorem sL_law_803 : ab_X rom K cL_law 12 2 803 (v0 :: v1 :: v2 :: .int x :: ls) st hp = ab_X rom K cL_law 12 2 804 (v0 :: v1 :: v2 :: .int x :: ls) (.int x :: st) hp := ax_iload_n dL_law_803 rfl rfl
theorem dL_law_804 : decode cL_law 804 = .ok (.iconst 1, 1) := by decide +kernel
theorem sL_law_804 : ab_X rom K cL_law 12 2 804 ls st hp = ab_X rom K cL_law 12 2 805 ls (.int 1 :: st) hp := ax_iconst dL_law_804 (by decide) rfl
theorem dL_law_805 : decode cL_law 805 = .ok (.iadd, 1) := by decide +kernel
theorem sL_law_805 : ab_X rom K cL_law 12 2 805 ls (.int y :: .int x :: st) hp = ab_X rom K cL_law 12 2 806 ls (.int (x + y) :: st) hp := ax_iadd dL_law_805 rfl
theorem dL_law_806 : decode cL_law 806 = .ok (.iaload, 1) := by decide +kernel
theorem sL_law_806 : ab_X rom K cL_law 12 2 806 ls (.int x :: .ref a :: st) hp = (ab_ard rom 0 hp a x).bind (fun v => ab_X rom K cL_law 12 2 807 ls (.int v :: st) hp) := ax_iaload dL_law_806 rfl
theorem dL_law_807 : decode cL_law 807 = .ok (.aload_n 0, 1) := by decide +kernel
theorem sL_law_807 : ab_X rom K cL_law 12 2 807 (.ref a :: ls) st hp = ab_X rom K cL_law 12 2 808 (.ref a :: ls) (.ref a :: st) hp := ax_aload_n dL_law_807 rfl rfl
theorem dL_law_808 : decode cL_law 808 = .ok (.iload_n 3, 1) := by decide +kernel
theorem sL_law_808 : ab_X rom K cL_law 12 2 808 (v0 :: v1 :: v2 :: .int x :: ls) st hp = ab_X rom K cL_law 12 2 809 (v0 :: v1 :: v2 :: .int x :: ls) (.int x :: st) hp := ax_iload_n dL_law_808 rfl rfl
theorem dL_law_809 : decode cL_law 809 = .ok (.iconst 2, 1) := by decide +kernel
theorem sL_law_809 : ab_X rom K cL_law 12 2 809 ls st hp = ab_X rom K cL_law 12 2 810 ls (.int 2 :: st) hp := ax_iconst dL_law_809 (by decide) rfl
theorem dL_law_810 : decode cL_law 810 = .ok (.iadd, 1) := by decide +kernel
theorem sL_law_810 : ab_X rom K cL_law 12 2 810 ls (.int y :: .int x :: st) hp = ab_X rom K cL_law 12 2 811 ls (.int (x + y) :: st) hp := ax_iadd dL_law_810 rfl
theorem dL_law_811 : decode cL_law 811 = .ok (.iaload, 1) := by decide +kernel
theorem sL_law_811 : ab_X rom K cL_law 12 2 811 ls (.int x :: .ref a :: st) hp = (ab_ard rom 0 hp a x).bind (fun v => ab_X rom K cL_law 12 2 812 ls (.int v :: st) hp) := ax_iaload dL_law_811 rfl
theorem dL_law_812 : decode cL_law 812 = .ok (.aload_n 0, 1) := by decide +kernel
theorem sL_law_812 : ab_X rom K cL_law 12 2 812 (.ref a :: ls) st hp = ab_X rom K cL_law 12 2 813 (.ref a :: ls) (.ref a :: st) hp := ax_aload_n dL_law_812 rfl rfl
theorem dL_law_813 : decode cL_law 813 = .ok (.iload_n 3, 1) := by decide +kernel
theorem sL_law_813 : ab_X rom K cL_law 12 2 813 (v0 :: v1 :: v2 :: .int x :: ls) st hp = ab_X rom K cL_law 12 2 814 (v0 :: v1 :: v2 :: .int x :: ls) (.int x :: st) hp := ax_iload_n dL_law_813 rfl rfl
theorem dL_law_814 : decode cL_law 814 = .ok (.iconst 3, 1) := by decide +kernel
theorem sL_law_814 : ab_X rom K cL_law 12 2 814 ls st hp = ab_X rom K cL_law 12 2 815 ls (.int 3 :: st) hp := ax_iconst dL_law_814 (by decide) rfl
theorem dL_law_815 : decode cL_law 815 = .ok (.iadd, 1) := by decide +kernel
theorem sL_law_815 : ab_X rom K cL_law 12 2 815 ls (.int y :: .int x :: st) hp = ab_X rom K cL_law 12 2 816 ls (.int (x + y) :: st) hp := ax_iadd dL_law_815 rfl
theorem dL_law_816 : decode cL_law 816 = .ok (.iaload, 1) := by decide +kernel
theorem sL_law_816 : ab_X rom K cL_law 12 2 816 ls (.int x :: .ref a :: st) hp = (ab_ard rom 0 hp a x).bind (fun v => ab_X rom K cL_law 12 2 817 ls (.int v :: st) hp) := ax_iaload dL_law_816 rfl
theorem dL_law_817 : decode cL_law 817 = .ok (.aload_n 0, 1) := by decide +kernel
theorem sL_law_817 : ab_X rom K cL_law 12 2 817 (.ref a :: ls) st hp = ab_X rom K cL_law 12 2 818 (.ref a :: ls) (.ref a :: st) hp := ax_aload_n dL_law_817 rfl rfl
theorem dL_law_818 : decode cL_law 818 = .ok (.iload_n 3, 1) := by decide +kernel
theorem sL_law_818 : ab_X rom K cL_law 12 2 818 (v0 :: v1 :: v2 :: .int x :: ls) st hp = ab_X rom K cL_law 12 2 819 (v0 :: v1 :: v2 :: .int x :: ls) (.int x :: st) hp := ax_iload_n dL_law_818 rfl rfl
theorem dL_law_819 : decode cL_law 819 = .ok (.iconst 4, 1) := by decide +kernel
theorem sL_law_819 : ab_X rom K cL_law 12 2 819 ls st hp = ab_X rom K cL_law 12 2 820 ls (.int 4 :: st) hp := ax_iconst dL_law_819 (by decide) rfl
theorem dL_law_820 : decode cL_law 820 = .ok (.iadd, 1) := by decide +kernel
theorem sL_law_820 : ab_X rom K cL_law 12 2 820 ls (.int y :: .int x :: st) hp = ab_X rom K cL_law 12 2 821 ls (.int (x + y) :: st) hp := ax_iadd dL_law_820 rfl
theorem dL_law_821 : decode cL_law 821 = .ok (.iaload, 1) := by decide +kernel
theorem sL_law_821 : ab_X rom K cL_law 12 2 821 ls (.int x :: .ref a :: st) hp = (ab_ard rom 0 hp a x).bind (fun v => ab_X rom K cL_law 12 2 822 ls (.int v :: st) hp) := ax_iaload dL_law_821 rfl
theorem dL_law_822 : decode cL_law 822 = .ok (.invokevirtual 85, 3) := by decide +kernel
theorem sL_law_822_0 : ab_X rom K cL_law 12 2 822 ls [w4, w3, w2, w1, .ref a] hp = if ab_iso hp a 6 = true then (K 111 (.ref a :: [w1, w2, w3, w4]) hp).bind (fun o => ab_X rom K cL_law 12 2 825 ls (o.1.toList ++ []) o.2) else none := ay_virtual (as := [w1, w2, w3, w4]) (st := []) dL_law_822 kc_12_85 rfl rfl (Nat.le_of_ble_eq_true rfl)
theorem sL_law_822_1 : ab_X rom K cL_law 12 2 822 ls [w4, w3, w2, w1, .ref a, v0] hp = if ab_iso hp a 6 = true then (K 111 (.ref a :: [w1, w2, w3, w4]) hp).bind (fun o => ab_X rom K cL_law 12 2 825 ls (o.1.toList ++ [v0]) o.2) else none := ay_virtual (as := [w1, w2, w3, w4]) (st := [v0]) dL_law_822 kc_12_85 rfl rfl (Nat.le_of_ble_eq_true rfl)
theorem sL_law_822_2 : ab_X rom K cL_law 12 2 822 ls [w4, w3, w2, w1, .ref a, v0, v1] hp = if ab_iso hp a 6 = true then (K 111 (.ref a :: [w1, w2, w3, w4]) hp).bind (fun o => ab_X rom K cL_law 12 2 825 ls (o.1.toList ++ [v0, v1]) o.2) else none := ay_virtual (as := [w1, w2, w3, w4]) (st := [v0, v1]) dL_law_822 kc_12_85 rfl rfl (Nat.le_of_ble_eq_true rfl)
theorem sL_law_822_3 : ab_X rom K cL_law 12 2 822 ls [w4, w3, w2, w1, .ref a, v0, v1, v2] hp = if ab_iso hp a 6 = true then (K 111 (.ref a :: [w1, w2, w3, w4]) hp).bind (fun o => ab_X rom K cL_law 12 2 825 ls (o.1.toList ++ [v0, v1, v2]) o.2) else none := ay_virtual (as := [w1, w2, w3, w4]) (st := [v0, v1, v2]) dL_law_822 kc_12_85 rfl rfl (Nat.le_of_ble_eq_true rfl)
theorem dL_law_825 : decode cL_law 825 = .ok (.aload_n 2, 1) := by decide +kernel
theorem sL_law_825 : ab_X rom K cL_law 12 2 825 (v0 :: v1 :: .ref a :: ls) st hp = ab_X rom K cL_law 12 2 826 (v0 :: v1 :: .ref a :: ls) (.ref a :: st) hp := ax_aload_n dL_law_825 rfl rfl
end
