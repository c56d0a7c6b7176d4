/-! the law, step by step (printed by wip/whole/gen_law.py) -/
section
variable {rom : List (List Int32)} {K : Nat → List Value → ab_H → Option ab_O} {ls st : List Value} {hp : ab_H} {x y z : Int32} {a a2 : Nat} {sp dp : Int32} {u w : Int64} {v0 v1 v2 v3 v4 v5 v6 v7 v8 v9 v10 v11 v12 v13 v14 v15 w1 w2 w3 w4 w5 w6 : Value}
theorem dL_law_826 : decode cL_law 826 = .ok (.aload_n 0, 1) := by decide +kernel
theorem sL_law_826 : ab_X rom K cL_law 12 2 826 (.ref a :: ls) st hp = ab_X rom K cL_law 12 2 827 (.ref a :: ls) (.ref a :: st) hp := ax_aload_n dL_law_826 rfl rfl
theorem dL_law_827 : decode cL_law 827 = .ok (.iload_n 3, 1) := by decide +kernel
theorem sL_law_827 : ab_X rom K cL_law 12 2 827 (v0 :: v1 :: v2 :: .int x :: ls) st hp = ab_X rom K cL_law 12 2 828 (v0 :: v1 :: v2 :: .int x :: ls) (.int x :: st) hp := ax_iload_n dL_law_827 rfl rfl
theorem dL_law_828 : decode cL_law 828 = .ok (.iconst 1, 1) := by decide +kernel
theorem sL_law_828 : ab_X rom K cL_law 12 2 828 ls st hp = ab_X rom K cL_law 12 2 829 ls (.int 1 :: st) hp := ax_iconst dL_law_828 (by decide) rfl
theorem dL_law_829 : decode cL_law 829 = .ok (.iadd, 1) := by decide +kernel
theorem sL_law_829 : ab_X rom K cL_law 12 2 829 ls (.int y :: .int x :: st) hp = ab_X rom K cL_law 12 2 830 ls (.int (x + y) :: st) hp := ax_iadd dL_law_829 rfl
theorem dL_law_830 : decode cL_law 830 = .ok (.iaload, 1) := by decide +kernel
theorem sL_law_830 : ab_X rom K cL_law 12 2 830 ls (.int x :: .ref a :: st) hp = (ab_ard rom 0 hp a x).bind (fun v => ab_X rom K cL_law 12 2 831 ls (.int v :: st) hp) := ax_iaload dL_law_830 rfl
theorem dL_law_831 : decode cL_law 831 = .ok (.aload_n 0, 1) := by decide +kernel
theorem sL_law_831 : ab_X rom K cL_law 12 2 831 (.ref a :: ls) st hp = ab_X rom K cL_law 12 2 832 (.ref a :: ls) (.ref a :: st) hp := ax_aload_n dL_law_831 rfl rfl
theorem dL_law_832 : decode cL_law 832 = .ok (.iload_n 3, 1) := by decide +kernel
theorem sL_law_832 : ab_X rom K cL_law 12 2 832 (v0 :: v1 :: v2 :: .int x :: ls) st hp = ab_X rom K cL_law 12 2 833 (v0 :: v1 :: v2 :: .int x :: ls) (.int x :: st) hp := ax_iload_n dL_law_832 rfl rfl
theorem dL_law_833 : decode cL_law 833 = .ok (.iconst 2, 1) := by decide +kernel
theorem sL_law_833 : ab_X rom K cL_law 12 2 833 ls st hp = ab_X rom K cL_law 12 2 834 ls (.int 2 :: st) hp := ax_iconst dL_law_833 (by decide) rfl
theorem dL_law_834 : decode cL_law 834 = .ok (.iadd, 1) := by decide +kernel
theorem sL_law_834 : ab_X rom K cL_law 12 2 834 ls (.int y :: .int x :: st) hp = ab_X rom K cL_law 12 2 835 ls (.int (x + y) :: st) hp := ax_iadd dL_law_834 rfl
theorem dL_law_835 : decode cL_law 835 = .ok (.iaload, 1) := by decide +kernel
theorem sL_law_835 : ab_X rom K cL_law 12 2 835 ls (.int x :: .ref a :: st) hp = (ab_ard rom 0 hp a x).bind (fun v => ab_X rom K cL_law 12 2 836 ls (.int v :: st) hp) := ax_iaload dL_law_835 rfl
theorem dL_law_836 : decode cL_law 836 = .ok (.aload_n 0, 1) := by decide +kernel
theorem sL_law_836 : ab_X rom K cL_law 12 2 836 (.ref a :: ls) st hp = ab_X rom K cL_law 12 2 837 (.ref a :: ls) (.ref a :: st) hp := ax_aload_n dL_law_836 rfl rfl
theorem dL_law_837 : decode cL_law 837 = .ok (.iload_n 3, 1) := by decide +kernel
theorem sL_law_837 : ab_X rom K cL_law 12 2 837 (v0 :: v1 :: v2 :: .int x :: ls) st hp = ab_X rom K cL_law 12 2 838 (v0 :: v1 :: v2 :: .int x :: ls) (.int x :: st) hp := ax_iload_n dL_law_837 rfl rfl
theorem dL_law_838 : decode cL_law 838 = .ok (.iconst 3, 1) := by decide +kernel
theorem sL_law_838 : ab_X rom K cL_law 12 2 838 ls st hp = ab_X rom K cL_law 12 2 839 ls (.int 3 :: st) hp := ax_iconst dL_law_838 (by decide) rfl
theorem dL_law_839 : decode cL_law 839 = .ok (.iadd, 1) := by decide +kernel
theorem sL_law_839 : ab_X rom K cL_law 12 2 839 ls (.int y :: .int x :: st) hp = ab_X rom K cL_law 12 2 840 ls (.int (x + y) :: st) hp := ax_iadd dL_law_839 rfl
theorem dL_law_840 : decode cL_law 840 = .ok (.iaload, 1) := by decide +kernel
theorem sL_law_840 : ab_X rom K cL_law 12 2 840 ls (.int x :: .ref a :: st) hp = (ab_ard rom 0 hp a x).bind (fun v => ab_X rom K cL_law 12 2 841 ls (.int v :: st) hp) := ax_iaload dL_law_840 rfl
theorem dL_law_841 : decode cL_law 841 = .ok (.aload_n 0, 1) := by decide +kernel
theorem sL_law_841 : ab_X rom K cL_law 12 2 841 (.ref a :: ls) st hp = ab_X rom K cL_law 12 2 842 (.ref a :: ls) (.ref a :: st) hp := ax_aload_n dL_law_841 rfl rfl
theorem dL_law_842 : decode cL_law 842 = .ok (.iload_n 3, 1) := by decide +kernel
theorem sL_law_842 : ab_X rom K cL_law 12 2 842 (v0 :: v1 :: v2 :: .int x :: ls) st hp = ab_X rom K cL_law 12 2 843 (v0 :: v1 :: v2 :: .int x :: ls) (.int x :: st) hp := ax_iload_n dL_law_842 rfl rfl
theorem dL_law_843 : decode cL_law 843 = .ok (.iconst 4, 1) := by decide +kernel
theorem sL_law_843 : ab_X rom K cL_law 12 2 843 ls st hp = ab_X rom K cL_law 12 2 844 ls (.int 4 :: st) hp := ax_iconst dL_law_843 (by decide) rfl
theorem dL_law_844 : decode cL_law 844 = .ok (.iadd, 1) := by decide +kernel
theorem sL_law_844 : ab_X rom K cL_law 12 2 844 ls (.int y :: .int x :: st) hp = ab_X rom K cL_law 12 2 845 ls (.int (x + y) :: st) hp := ax_iadd dL_law_844 rfl
theorem dL_law_845 : decode cL_law 845 = .ok (.iaload, 1) := by decide +kernel
theorem sL_law_845 : ab_X rom K cL_law 12 2 845 ls (.int x :: .ref a :: st) hp = (ab_ard rom 0 hp a x).bind (fun v => ab_X rom K cL_law 12 2 846 ls (.int v :: st) hp) := ax_iaload dL_law_845 rfl
theorem dL_law_846 : decode cL_law 846 = .ok (.invokevirtual 89, 3) := by decide +kernel
theorem sL_law_846_0 : ab_X rom K cL_law 12 2 846 ls [w4, w3, w2, w1, .ref a] hp = if ab_iso hp a 7 = true then (K 216 (.ref a :: [w1, w2, w3, w4]) hp).bind (fun o => ab_X rom K cL_law 12 2 849 ls (o.1.toList ++ []) o.2) else none := ay_virtual (as := [w1, w2, w3, w4]) (st := []) dL_law_846 kc_12_89 rfl rfl (Nat.le_of_ble_eq_true rfl)
theorem sL_law_846_1 : ab_X rom K cL_law 12 2 846 ls [w4, w3, w2, w1, .ref a, v0] hp = if ab_iso hp a 7 = true then (K 216 (.ref a :: [w1, w2, w3, w4]) hp).bind (fun o => ab_X rom K cL_law 12 2 849 ls (o.1.toList ++ [v0]) o.2) else none := ay_virtual (as := [w1, w2, w3, w4]) (st := [v0]) dL_law_846 kc_12_89 rfl rfl (Nat.le_of_ble_eq_true rfl)
theorem sL_law_846_2 : ab_X rom K cL_law 12 2 846 ls [w4, w3, w2, w1, .ref a, v0, v1] hp = if ab_iso hp a 7 = true then (K 216 (.ref a :: [w1, w2, w3, w4]) hp).bind (fun o => ab_X rom K cL_law 12 2 849 ls (o.1.toList ++ [v0, v1]) o.2) else none := ay_virtual (as := [w1, w2, w3, w4]) (st := [v0, v1]) dL_law_846 kc_12_89 rfl rfl (Nat.le_of_ble_eq_true rfl)
theorem sL_law_846_3 : ab_X rom K cL_law 12 2 846 ls [w4, w3, w2, w1, .ref a, v0, v1, v2] hp = if ab_iso hp a 7 = true then (K 216 (.ref a :: [w1, w2, w3, w4]) hp).bind (fun o => ab_X rom K cL_law 12 2 849 ls (o.1.toList ++ [v0, v1, v2]) o.2) else none := ay_virtual (as := [w1, w2, w3, w4]) (st := [v0, v1, v2]) dL_law_846 kc_12_89 rfl rfl (Nat.le_of_ble_eq_true rfl)
theorem dL_law_849 : decode cL_law 849 = .ok (.if_icmp .eq 635, 3) := by decide +kernel
theorem sL_law_849 : ab_X rom K cL_law 12 2 849 ls (.int y :: .int x :: st) hp = if x = y then ab_X rom K cL_law 12 2 1484 ls st hp else ab_X rom K cL_law 12 2 852 ls st hp := ax_icmp_eq dL_law_849 (by decide) rfl
theorem dL_law_854 : decode cL_law 854 = .ok (.aload_n 1, 1) := by decide +kernel
theorem sL_law_854 : ab_X rom K cL_law 12 2 854 (v0 :: .ref a :: ls) st hp = ab_X rom K cL_law 12 2 855 (v0 :: .ref a :: ls) (.ref a :: st) hp := ax_aload_n dL_law_854 rfl rfl
theorem dL_law_855 : decode cL_law 855 = .ok (.aload_n 0, 1) := by decide +kernel
theorem sL_law_855 : ab_X rom K cL_law 12 2 855 (.ref a :: ls) st hp = ab_X rom K cL_law 12 2 856 (.ref a :: ls) (.ref a :: st) hp := ax_aload_n dL_law_855 rfl rfl
theorem dL_law_856 : decode cL_law 856 = .ok (.iload_n 3, 1) := by decide +kernel
theorem sL_law_856 : ab_X rom K cL_law 12 2 856 (v0 :: v1 :: v2 :: .int x :: ls) st hp = ab_X rom K cL_law 12 2 857 (v0 :: v1 :: v2 :: .int x :: ls) (.int x :: st) hp := ax_iload_n dL_law_856 rfl rfl
theorem dL_law_857 : decode cL_law 857 = .ok (.iconst 1, 1) := by decide +kernel
theorem sL_law_857 : ab_X rom K cL_law 12 2 857 ls st hp = ab_X rom K cL_law 12 2 858 ls (.int 1 :: st) hp := ax_iconst dL_law_857 (by decide) rfl
theorem dL_law_858 : decode cL_law 858 = .ok (.iadd, 1) := by decide +kernel
theorem sL_law_858 : ab_X rom K cL_law 12 2 858 ls (.int y :: .int x :: st) hp = ab_X rom K cL_law 12 2 859 ls (.int (x + y) :: st) hp := ax_iadd dL_law_858 rfl
theorem dL_law_859 : decode cL_law 859 = .ok (.iaload, 1) := by decide +kernel
theorem sL_law_859 : ab_X rom K cL_law 12 2 859 ls (.int x :: .ref a :: st) hp = (ab_ard rom 0 hp a x).bind (fun v => ab_X rom K cL_law 12 2 860 ls (.int v :: st) hp) := ax_iaload dL_law_859 rfl
theorem dL_law_860 : decode cL_law 860 = .ok (.aload_n 0, 1) := by decide +kernel
theorem sL_law_860 : ab_X rom K cL_law 12 2 860 (.ref a :: ls) st hp = ab_X rom K cL_law 12 2 861 (.ref a :: ls) (.ref a :: st) hp := ax_aload_n dL_law_860 rfl rfl
theorem dL_law_861 : decode cL_law 861 = .ok (.iload_n 3, 1) := by decide +kernel
theorem sL_law_861 : ab_X rom K cL_law 12 2 861 (v0 :: v1 :: v2 :: .int x :: ls) st hp = ab_X rom K cL_law 12 2 862 (v0 :: v1 :: v2 :: .int x :: ls) (.int x :: st) hp := ax_iload_n dL_law_861 rfl rfl
theorem dL_law_862 : decode cL_law 862 = .ok (.iconst 2, 1) := by decide +kernel
theorem sL_law_862 : ab_X rom K cL_law 12 2 862 ls st hp = ab_X rom K cL_law 12 2 863 ls (.int 2 :: st) hp := ax_iconst dL_law_862 (by decide) rfl
theorem dL_law_863 : decode cL_law 863 = .ok (.iadd, 1) := by decide +kernel
theorem sL_law_863 : ab_X rom K cL_law 12 2 863 ls (.int y :: .int x :: st) hp = ab_X rom K cL_law 12 2 864 ls (.int (x + y) :: st) hp := ax_iadd dL_law_863 rfl
theorem dL_law_864 : decode cL_law 864 = .ok (.iaload, 1) := by decide +kernel
theorem sL_law_864 : ab_X rom K cL_law 12 2 864 ls (.int x :: .ref a :: st) hp = (ab_ard rom 0 hp a x).bind (fun v => ab_X rom K cL_law 12 2 865 ls (.int v :: st) hp) := ax_iaload dL_law_864 rfl
theorem dL_law_865 : decode cL_law 865 = .ok (.aload_n 0, 1) := by decide +kernel
theorem sL_law_865 : ab_X rom K cL_law 12 2 865 (.ref a :: ls) st hp = ab_X rom K cL_law 12 2 866 (.ref a :: ls) (.ref a :: st) hp := ax_aload_n dL_law_865 rfl rfl
theorem dL_law_866 : decode cL_law 866 = .ok (.iload_n 3, 1) := by decide +kernel
theorem sL_law_866 : ab_X rom K cL_law 12 2 866 (v0 :: v1 :: v2 :: .int x :: ls) st hp = ab_X rom K cL_law 12 2 867 (v0 :: v1 :: v2 :: .int x :: ls) (.int x :: st) hp := ax_iload_n dL_law_866 rfl rfl
theorem dL_law_867 : decode cL_law 867 = .ok (.iconst 3, 1) := by decide +kernel
theorem sL_law_867 : ab_X rom K cL_law 12 2 867 ls st hp = ab_X rom K cL_law 12 2 868 ls (.int 3 :: st) hp := ax_iconst dL_law_867 (by decide) rfl
theorem dL_law_868 : decode cL_law 868 = .ok (.iadd, 1) := by decide +kernel
theorem sL_law_868 : ab_X rom K cL_law 12 2 868 ls (.int y :: .int x :: st) hp = ab_X rom K cL_law 12 2 869 ls (.int (x + y) :: st) hp := ax_iadd dL_law_868 rfl
theorem dL_law_869 : decode cL_law 869 = .ok (.iaload, 1) := by decide +kernel
theorem sL_law_869 : ab_X rom K cL_law 12 2 869 ls (.int x :: .ref a :: st) hp = (ab_ard rom 0 hp a x).bind (fun v => ab_X rom K cL_law 12 2 870 ls (.int v :: st) hp) := ax_iaload dL_law_869 rfl
theorem dL_law_870 : decode cL_law 870 = .ok (.invokevirtual 90, 3) := by decide +kernel
theorem sL_law_870_0 : ab_X rom K cL_law 12 2 870 ls [w3, w2, w1, .ref a] hp = if ab_iso hp a 6 = true then (K 119 (.ref a :: [w1, w2, w3]) hp).bind (fun o => ab_X rom K cL_law 12 2 873 ls (o.1.toList ++ []) o.2) else none := ay_virtual (as := [w1, w2, w3]) (st := []) dL_law_870 kc_12_90 rfl rfl (Nat.le_of_ble_eq_true rfl)
theorem sL_law_870_1 : ab_X rom K cL_law 12 2 870 ls [w3, w2, w1, .ref a, v0] hp = if ab_iso hp a 6 = true then (K 119 (.ref a :: [w1, w2, w3]) hp).bind (fun o => ab_X rom K cL_law 12 2 873 ls (o.1.toList ++ [v0]) o.2) else none := ay_virtual (as := [w1, w2, w3]) (st := [v0]) dL_law_870 kc_12_90 rfl rfl (Nat.le_of_ble_eq_true rfl)
theorem sL_law_870_2 : ab_X rom K cL_law 12 2 870 ls [w3, w2, w1, .ref a, v0, v1] hp = if ab_iso hp a 6 = true then (K 119 (.ref a :: [w1, w2, w3]) hp).bind (fun o => ab_X rom K cL_law 12 2 873 ls (o.1.toList ++ [v0, v1]) o.2) else none := ay_virtual (as := [w1, w2, w3]) (st := [v0, v1]) dL_law_870 kc_12_90 rfl rfl (Nat.le_of_ble_eq_true rfl)
theorem sL_law_870_3 : ab_X rom K cL_law 12 2 870 ls [w3, w2, w1, .ref a, v0, v1, v2] hp = if ab_iso hp a 6 = true then (K 119 (.ref a :: [w1, w2, w3]) hp).bind (fun o => ab_X rom K cL_law 12 2 873 ls (o.1.toList ++ [v0, v1, v2]) o.2) else none := ay_virtual (as := [w1, w2, w3]) (st := [v0, v1, v2]) dL_law_870 kc_12_90 rfl rfl (Nat.le_of_ble_eq_true rfl)
theorem dL_law_873 : decode cL_law 873 = .ok (.aload_n 2, 1) := by decide +kernel
theorem sL_law_873 : ab_X rom K cL_law 12 2 873 (v0 :: v1 :: .ref a :: ls) st hp = ab_X rom K cL_law 12 2 874 (v0 :: v1 :: .ref a :: ls) (.ref a :: st) hp := ax_aload_n dL_law_873 rfl rfl
theorem dL_law_874 : decode cL_law 874 = .ok (.aload_n 0, 1) := by decide +kernel
theorem sL_law_874 : ab_X rom K cL_law 12 2 874 (.ref a :: ls) st hp = ab_X rom K cL_law 12 2 875 (.ref a :: ls) (.ref a :: st) hp := ax_aload_n dL_law_874 rfl rfl
theorem dL_law_875 : decode cL_law 875 = .ok (.iload_n 3, 1) := by decide +kernel
theorem sL_law_875 : ab_X rom K cL_law 12 2 875 (v0 :: v1 :: v2 :: .int x :: ls) st hp = ab_X rom K cL_law 12 2 876 (v0 :: v1 :: v2 :: .int x :: ls) (.int x :: st) hp := ax_iload_n dL_law_875 rfl rfl
theorem dL_law_876 : decode cL_law 876 = .ok (.iconst 1, 1) := by decide +kernel
theorem sL_law_876 : ab_X rom K cL_law 12 2 876 ls st hp = ab_X rom K cL_law 12 2 877 ls (.int 1 :: st) hp := ax_iconst dL_law_876 (by decide) rfl
theorem dL_law_877 : decode cL_law 877 = .ok (.iadd, 1) := by decide +kernel
theorem sL_law_877 : ab_X rom K cL_law 12 2 877 ls (.int y :: .int x :: st) hp = ab_X rom K cL_law 12 2 878 ls (.int (x + y) :: st) hp := ax_iadd dL_law_877 rfl
theorem dL_law_878 : decode cL_law 878 = .ok (.iaload, 1) := by decide +kernel
theorem sL_law_878 : ab_X rom K cL_law 12 2 878 ls (.int x :: .ref a :: st) hp = (ab_ard rom 0 hp a x).bind (fun v => ab_X rom K cL_law 12 2 879 ls (.int v :: st) hp) := ax_iaload dL_law_878 rfl
theorem dL_law_879 : decode cL_law 879 = .ok (.aload_n 0, 1) := by decide +kernel
theorem sL_law_879 : ab_X rom K cL_law 12 2 879 (.ref a :: ls) st hp = ab_X rom K cL_law 12 2 880 (.ref a :: ls) (.ref a :: st) hp := ax_aload_n dL_law_879 rfl rfl
theorem dL_law_880 : decode cL_law 880 = .ok (.iload_n 3, 1) := by decide +kernel
theorem sL_law_880 : ab_X rom K cL_law 12 2 880 (v0 :: v1 :: v2 :: .int x :: ls) st hp = ab_X rom K cL_law 12 2 881 (v0 :: v1 :: v2 :: .int x :: ls) (.int x :: st) hp := ax_iload_n dL_law_880 rfl rfl
theorem dL_law_881 : decode cL_law 881 = .ok (.iconst 2, 1) := by decide +kernel
theorem sL_law_881 : ab_X rom K cL_law 12 2 881 ls st hp = ab_X rom K cL_law 12 2 882 ls (.int 2 :: st) hp := ax_iconst dL_law_881 (by decide) rfl
theorem dL_law_882 : decode cL_law 882 = .ok (.iadd, 1) := by decide +kernel
theorem sL_law_882 : ab_X rom K cL_law 12 2 882 ls (.int y :: .int x :: st) hp = ab_X rom K cL_law 12 2 883 ls (.int (x + y) :: st) hp := ax_iadd dL_law_882 rfl
theorem dL_law_883 : decode cL_law 883 = .ok (.iaload, 1) := by decide +kernel
theorem sL_law_883 : ab_X rom K cL_law 12 2 883 ls (.int x :: .ref a :: st) hp = (ab_ard rom 0 hp a x).bind (fun v => ab_X rom K cL_law 12 2 884 ls (.int v :: st) hp) := ax_iaload dL_law_883 rfl
theorem dL_law_884 : decode cL_law 884 = .ok (.aload_n 0, 1) := by decide +kernel
theorem sL_law_884 : ab_X rom K cL_law 12 2 884 (.ref a :: ls) st hp = ab_X rom K cL_law 12 2 885 (.ref a :: ls) (.ref a :: st) hp := ax_aload_n dL_law_884 rfl rfl
theorem dL_law_885 : decode cL_law 885 = .ok (.iload_n 3, 1) := by decide +kernel
theorem sL_law_885 : ab_X rom K cL_law 12 2 885 (v0 :: v1 :: v2 :: .int x :: ls) st hp = ab_X rom K cL_law 12 2 886 (v0 :: v1 :: v2 :: .int x :: ls) (.int x :: st) hp := ax_iload_n dL_law_885 rfl rfl
theorem dL_law_886 : decode cL_law 886 = .ok (.iconst 3, 1) := by decide +kernel
theorem sL_law_886 : ab_X rom K cL_law 12 2 886 ls st hp = ab_X rom K cL_law 12 2 887 ls (.int 3 :: st) hp := ax_iconst dL_law_886 (by decide) rfl
theorem dL_law_887 : decode cL_law 887 = .ok (.iadd, 1) := by decide +kernel
theorem sL_law_887 : ab_X rom K cL_law 12 2 887 ls (.int y :: .int x :: st) hp = ab_X rom K cL_law 12 2 888 ls (.int (x + y) :: st) hp := ax_iadd dL_law_887 rfl
theorem dL_law_888 : decode cL_law 888 = .ok (.iaload, 1) := by decide +kernel
theorem sL_law_888 : ab_X rom K cL_law 12 2 888 ls (.int x :: .ref a :: st) hp = (ab_ard rom 0 hp a x).bind (fun v => ab_X rom K cL_law 12 2 889 ls (.int v :: st) hp) := ax_iaload dL_law_888 rfl
theorem dL_law_889 : decode cL_law 889 = .ok (.invokevirtual 93, 3) := by decide +kernel
theorem sL_law_889_0 : ab_X rom K cL_law 12 2 889 ls [w3, w2, w1, .ref a] hp = if ab_iso hp a 7 = true then (K 229 (.ref a :: [w1, w2, w3]) hp).bind (fun o => ab_X rom K cL_law 12 2 892 ls (o.1.toList ++ []) o.2) else none := ay_virtual (as := [w1, w2, w3]) (st := []) dL_law_889 kc_12_93 rfl rfl (Nat.le_of_ble_eq_true rfl)
theorem sL_law_889_1 : ab_X rom K cL_law 12 2 889 ls [w3, w2, w1, .ref a, v0] hp = if ab_iso hp a 7 = true then (K 229 (.ref a :: [w1, w2, w3]) hp).bind (fun o => ab_X rom K cL_law 12 2 892 ls (o.1.toList ++ [v0]) o.2) else none := ay_virtual (as := [w1, w2, w3]) (st := [v0]) dL_law_889 kc_12_93 rfl rfl (Nat.le_of_ble_eq_true rfl)
theorem sL_law_889_2 : ab_X rom K cL_law 12 2 889 ls [w3, w2, w1, .ref a, v0, v1] hp = if ab_iso hp a 7 = true then (K 229 (.ref a :: [w1, w2, w3]) hp).bind (fun o => ab_X rom K cL_law 12 2 892 ls (o.1.toList ++ [v0, v1]) o.2) else none := ay_virtual (as := [w1, w2, w3]) (st := [v0, v1]) dL_law_889 kc_12_93 rfl rfl (Nat.le_of_ble_eq_true rfl)
theorem sL_law_889_3 : ab_X rom K cL_law 12 2 889 ls [w3, w2, w1, .ref a, v0, v1, v2] hp = if ab_iso hp a 7 = true then (K 229 (.ref a :: [w1, w2, w3]) hp).bind (fun o => ab_X rom K cL_law 12 2 892 ls (o.1.toList ++ [v0, v1, v2]) o.2) else none := ay_virtual (as := [w1, w2, w3]) (st := [v0, v1, v2]) dL_law_889 kc_12_93 rfl rfl (Nat.le_of_ble_eq_true rfl)
theorem dL_law_892 : decode cL_law 892 = .ok (.if_icmp .eq 592, 3) := by decide +kernel
theorem sL_law_892 : ab_X rom K cL_law 12 2 892 ls (.int y :: .int x :: st) hp = if x = y then ab_X rom K cL_law 12 2 1484 ls st hp else ab_X rom K cL_law 12 2 895 ls st hp := ax_icmp_eq dL_law_892 (by decide) rfl
theorem dL_law_897 : decode cL_law 897 = .ok (.aload_n 1, 1) := by decide +kernel
theorem sL_law_897 : ab_X rom K cL_law 12 2 897 (v0 :: .ref a :: ls) st hp = ab_X rom K cL_law 12 2 898 (v0 :: .ref a :: ls) (.ref a :: st) hp := ax_aload_n dL_law_897 rfl rfl
theorem dL_law_898 : decode cL_law 898 = .ok (.aload_n 0, 1) := by decide +kernel
theorem sL_law_898 : ab_X rom K cL_law 12 2 898 (.ref a :: ls) st hp = ab_X rom K cL_law 12 2 899 (.ref a :: ls) (.ref a :: st) hp := ax_aload_n dL_law_898 rfl rfl
theorem dL_law_899 : decode cL_law 899 = .ok (.iload_n 3, 1) := by decide +kernel
theorem sL_law_899 : ab_X rom K cL_law 12 2 899 (v0 :: v1 :: v2 :: .int x :: ls) st hp = ab_X rom K cL_law 12 2 900 (v0 :: v1 :: v2 :: .int x :: ls) (.int x :: st) hp := ax_iload_n dL_law_899 rfl rfl
theorem dL_law_900 : decode cL_law 900 = .ok (.iconst 1, 1) := by decide +kernel
theorem sL_law_900 : ab_X rom K cL_law 12 2 900 ls st hp = ab_X rom K cL_law 12 2 901 ls (.int 1 :: st) hp := ax_iconst dL_law_900 (by decide) rfl
theorem dL_law_901 : decode cL_law 901 = .ok (.iadd, 1) := by decide +kernel
theorem sL_law_901 : ab_X rom K cL_law 12 2 901 ls (.int y :: .int x :: st) hp = ab_X rom K cL_law 12 2 902 ls (.int (x + y) :: st) hp := ax_iadd dL_law_901 rfl
theorem dL_law_902 : decode cL_law 902 = .ok (.iaload, 1) := by decide +kernel
theorem sL_law_902 : ab_X rom K cL_law 12 2 902 ls (.int x :: .ref a :: st) hp = (ab_ard rom 0 hp a x).bind (fun v => ab_X rom K cL_law 12 2 903 ls (.int v :: st) hp) := ax_iaload dL_law_902 rfl
theorem dL_law_903 : decode cL_law 903 = .ok (.aload_n 0, 1) := by decide +kernel
theorem sL_law_903 : ab_X rom K cL_law 12 2 903 (.ref a :: ls) st hp = ab_X rom K cL_law 12 2 904 (.ref a :: ls) (.ref a :: st) hp := ax_aload_n dL_law_903 rfl rfl
theorem dL_law_904 : decode cL_law 904 = .ok (.iload_n 3, 1) := by decide +kernel
theorem sL_law_904 : ab_X rom K cL_law 12 2 904 (v0 :: v1 :: v2 :: .int x :: ls) st hp = ab_X rom K cL_law 12 2 905 (v0 :: v1 :: v2 :: .int x :: ls) (.int x :: st) hp := ax_iload_n dL_law_904 rfl rfl
theorem dL_law_905 : decode cL_law 905 = .ok (.iconst 2, 1) := by decide +kernel
theorem sL_law_905 : ab_X rom K cL_law 12 2 905 ls st hp = ab_X rom K cL_law 12 2 906 ls (.int 2 :: st) hp := ax_iconst dL_law_905 (by decide) rfl
theorem dL_law_906 : decode cL_law 906 = .ok (.iadd, 1) := by decide +kernel
theorem sL_law_906 : ab_X rom K cL_law 12 2 906 ls (.int y :: .int x :: st) hp = ab_X rom K cL_law 12 2 907 ls (.int (x + y) :: st) hp := ax_iadd dL_law_906 rfl
theorem dL_law_907 : decode cL_law 907 = .ok (.iaload, 1) := by decide +kernel
theorem sL_law_907 : ab_X rom K cL_law 12 2 907 ls (.int x :: .ref a :: st) hp = (ab_ard rom 0 hp a x).bind (fun v => ab_X rom K cL_law 12 2 908 ls (.int v :: st) hp) := ax_iaload dL_law_907 rfl
theorem dL_law_908 : decode cL_law 908 = .ok (.aload_n 0, 1) := by decide +kernel
theorem sL_law_908 : ab_X rom K cL_law 12 2 908 (.ref a :: ls) st hp = ab_X rom K cL_law 12 2 909 (.ref a :: ls) (.ref a :: st) hp := ax_aload_n dL_law_908 rfl rfl
theorem dL_law_909 : decode cL_law 909 = .ok (.iload_n 3, 1) := by decide +kernel
theorem sL_law_909 : ab_X rom K cL_law 12 2 909 (v0 :: v1 :: v2 :: .int x :: ls) st hp = ab_X rom K cL_law 12 2 910 (v0 :: v1 :: v2 :: .int x :: ls) (.int x :: st) hp := ax_iload_n dL_law_909 rfl rfl
theorem dL_law_910 : decode cL_law 910 = .ok (.iconst 3, 1) := by decide +kernel
theorem sL_law_910 : ab_X rom K cL_law 12 2 910 ls st hp = ab_X rom K cL_law 12 2 911 ls (.int 3 :: st) hp := ax_iconst dL_law_910 (by decide) rfl
theorem dL_law_911 : decode cL_law 911 = .ok (.iadd, 1) := by decide +kernel
theorem sL_law_911 : ab_X rom K cL_law 12 2 911 ls (.int y :: .int x :: st) hp = ab_X rom K cL_law 12 2 912 ls (.int (x + y) :: st) hp := ax_iadd dL_law_911 rfl
theorem dL_law_912 : decode cL_law 912 = .ok (.iaload, 1) := by decide +kernel
theorem sL_law_912 : ab_X rom K cL_law 12 2 912 ls (.int x :: .ref a :: st) hp = (ab_ard rom 0 hp a x).bind (fun v => ab_X rom K cL_law 12 2 913 ls (.int v :: st) hp) := ax_iaload dL_law_912 rfl
theorem dL_law_913 : decode cL_law 913 = .ok (.invokevirtual 94, 3) := by decide +kernel
theorem sL_law_913_0 : ab_X rom K cL_law 12 2 913 ls [w3, w2, w1, .ref a] hp = if ab_iso hp a 6 = true then (K 82 (.ref a :: [w1, w2, w3]) hp).bind (fun o => ab_X rom K cL_law 12 2 916 ls (o.1.toList ++ []) o.2) else none := ay_virtual (as := [w1, w2, w3]) (st := []) dL_law_913 kc_12_94 rfl rfl (Nat.le_of_ble_eq_true rfl)
theorem sL_law_913_1 : ab_X rom K cL_law 12 2 913 ls [w3, w2, w1, .ref a, v0] hp = if ab_iso hp a 6 = true then (K 82 (.ref a :: [w1, w2, w3]) hp).bind (fun o => ab_X rom K cL_law 12 2 916 ls (o.1.toList ++ [v0]) o.2) else none := ay_virtual (as := [w1, w2, w3]) (st := [v0]) dL_law_913 kc_12_94 rfl rfl (Nat.le_of_ble_eq_true rfl)
theorem sL_law_913_2 : ab_X rom K cL_law 12 2 913 ls [w3, w2, w1, .ref a, v0, v1] hp = if ab_iso hp a 6 = true then (K 82 (.ref a :: [w1, w2, w3]) hp).bind (fun o => ab_X rom K cL_law 12 2 916 ls (o.1.toList ++ [v0, v1]) o.2) else none := ay_virtual (as := [w1, w2, w3]) (st := [v0, v1]) dL_law_913 kc_12_94 rfl rfl (Nat.le_of_ble_eq_true rfl)
theorem sL_law_913_3 : ab_X rom K cL_law 12 2 913 ls [w3, w2, w1, .ref a, v0, v1, v2] hp = if ab_iso hp a 6 = true then (K 82 (.ref a :: [w1, w2, w3]) hp).bind (fun o => ab_X rom K cL_law 12 2 916 ls (o.1.toList ++ [v0, v1, v2]) o.2) else none := ay_virtual (as := [w1, w2, w3]) (st := [v0, v1, v2]) dL_law_913 kc_12_94 rfl rfl (Nat.le_of_ble_eq_true rfl)
theorem dL_law_916 : decode cL_law 916 = .ok (.aload_n 2, 1) := by decide +kernel
theorem sL_law_916 : ab_X rom K cL_law 12 2 916 (v0 :: v1 :: .ref a :: ls) st hp = ab_X rom K cL_law 12 2 917 (v0 :: v1 :: .ref a :: ls) (.ref a :: st) hp := ax_aload_n dL_law_916 rfl rfl
theorem dL_law_917 : decode cL_law 917 = .ok (.aload_n 0, 1) := by decide +kernel
theorem sL_law_917 : ab_X rom K cL_law 12 2 917 (.ref a :: ls) st hp = ab_X rom K cL_law 12 2 918 (.ref a :: ls) (.ref a :: st) hp := ax_aload_n dL_law_917 rfl rfl
theorem dL_law_918 : decode cL_law 918 = .ok (.iload_n 3, 1) := by decide +kernel
theorem sL_law_918 : ab_X rom K cL_law 12 2 918 (v0 :: v1 :: v2 :: .int x :: ls) st hp = ab_X rom K cL_law 12 2 919 (v0 :: v1 :: v2 :: .int x :: ls) (.int x :: st) hp := ax_iload_n dL_law_918 rfl rfl
theorem dL_law_919 : decode cL_law 919 = .ok (.iconst 1, 1) := by decide +kernel
theorem sL_law_919 : ab_X rom K cL_law 12 2 919 ls st hp = ab_X rom K cL_law 12 2 920 ls (.int 1 :: st) hp := ax_iconst dL_law_919 (by decide) rfl
theorem dL_law_920 : decode cL_law 920 = .ok (.iadd, 1) := by decide +kernel
theorem sL_law_920 : ab_X rom K cL_law 12 2 920 ls (.int y :: .int x :: st) hp = ab_X rom K cL_law 12 2 921 ls (.int (x + y) :: st) hp := ax_iadd dL_law_920 rfl
theorem dL_law_921 : decode cL_law 921 = .ok (.iaload, 1) := by decide +kernel
theorem sL_law_921 : ab_X rom K cL_law 12 2 921 ls (.int x :: .ref a :: st) hp = (ab_ard rom 0 hp a x).bind (fun v => ab_X rom K cL_law 12 2 922 ls (.int v :: st) hp) := ax_iaload dL_law_921 rfl
theorem dL_law_922 : decode cL_law 922 = .ok (.aload_n 0, 1) := by decide +kernel
theorem sL_law_922 : ab_X rom K cL_law 12 2 922 (.ref a :: ls) st hp = ab_X rom K cL_law 12 2 923 (.ref a :: ls) (.ref a :: st) hp := ax_aload_n dL_law_922 rfl rfl
theorem dL_law_923 : decode cL_law 923 = .ok (.iload_n 3, 1) := by decide +kernel
theorem sL_law_923 : ab_X rom K cL_law 12 2 923 (v0 :: v1 :: v2 :: .int x :: ls) st hp = ab_X rom K cL_law 12 2 924 (v0 :: v1 :: v2 :: .int x :: ls) (.int x :: st) hp := ax_iload_n dL_law_923 rfl rfl
theorem dL_law_924 : decode cL_law 924 = .ok (.iconst 2, 1) := by decide +kernel
theorem sL_law_924 : ab_X rom K cL_law 12 2 924 ls st hp = ab_X rom K cL_law 12 2 925 ls (.int 2 :: st) hp := ax_iconst dL_law_924 (by decide) rfl
theorem dL_law_925 : decode cL_law 925 = .ok (.iadd, 1) := by decide +kernel
theorem sL_law_925 : ab_X rom K cL_law 12 2 925 ls (.int y :: .int x :: st) hp = ab_X rom K cL_law 12 2 926 ls (.int (x + y) :: st) hp := ax_iadd dL_law_925 rfl
theorem dL_law_926 : decode cL_law 926 = .ok (.iaload, 1) := by decide +kernel
theorem sL_law_926 : ab_X rom K cL_law 12 2 926 ls (.int x :: .ref a :: st) hp = (ab_ard rom 0 hp a x).bind (fun v => ab_X rom K cL_law 12 2 927 ls (.int v :: st) hp) := ax_iaload dL_law_926 rfl
theorem dL_law_927 : decode cL_law 927 = .ok (.aload_n 0, 1) := by decide +kernel
theorem sL_law_927 : ab_X rom K cL_law 12 2 927 (.ref a :: ls) st hp = ab_X rom K cL_law 12 2 928 (.ref a :: ls) (.ref a :: st) hp := ax_aload_n dL_law_927 rfl rfl
theorem dL_law_928 : decode cL_law 928 = .ok (.iload_n 3, 1) := by decide +kernel
theorem sL_law_928 : ab_X rom K cL_law 12 2 928 (v0 :: v1 :: v2 :: .int x :: ls) st hp = ab_X rom K cL_law 12 2 929 (v0 :: v1 :: v2 :: .int x :: ls) (.int x :: st) hp := ax_iload_n dL_law_928 rfl rfl
theorem dL_law_929 : decode cL_law 929 = .ok (.iconst 3, 1) := by decide +kernel
theorem sL_law_929 : ab_X rom K cL_law 12 2 929 ls st hp = ab_X rom K cL_law 12 2 930 ls (.int 3 :: st) hp := ax_iconst dL_law_929 (by decide) rfl
theorem dL_law_930 : decode cL_law 930 = .ok (.iadd, 1) := by decide +kernel
theorem sL_law_930 : ab_X rom K cL_law 12 2 930 ls (.int y :: .int x :: st) hp = ab_X rom K cL_law 12 2 931 ls (.int (x + y) :: st) hp := ax_iadd dL_law_930 rfl
theorem dL_law_931 : decode cL_law 931 = .ok (.iaload, 1) := by decide +kernel
theorem sL_law_931 : ab_X rom K cL_law 12 2 931 ls (.int x :: .ref a :: st) hp = (ab_ard rom 0 hp a x).bind (fun v => ab_X rom K cL_law 12 2 932 ls (.int v :: st) hp) := ax_iaload dL_law_931 rfl
theorem dL_law_932 : decode cL_law 932 = .ok (.invokevirtual 97, 3) := by decide +kernel
theorem sL_law_932_0 : ab_X rom K cL_law 12 2 932 ls [w3, w2, w1, .ref a] hp = if ab_iso hp a 7 = true then (K 140 (.ref a :: [w1, w2, w3]) hp).bind (fun o => ab_X rom K cL_law 12 2 935 ls (o.1.toList ++ []) o.2) else none := ay_virtual (as := [w1, w2, w3]) (st := []) dL_law_932 kc_12_97 rfl rfl (Nat.le_of_ble_eq_true rfl)
theorem sL_law_932_1 : ab_X rom K cL_law 12 2 932 ls [w3, w2, w1, .ref a, v0] hp = if ab_iso hp a 7 = true then (K 140 (.ref a :: [w1, w2, w3]) hp).bind (fun o => ab_X rom K cL_law 12 2 935 ls (o.1.toList ++ [v0]) o.2) else none := ay_virtual (as := [w1, w2, w3]) (st := [v0]) dL_law_932 kc_12_97 rfl rfl (Nat.le_of_ble_eq_true rfl)
theorem sL_law_932_2 : ab_X rom K cL_law 12 2 932 ls [w3, w2, w1, .ref a, v0, v1] hp = if ab_iso hp a 7 = true then (K 140 (.ref a :: [w1, w2, w3]) hp).bind (fun o => ab_X rom K cL_law 12 2 935 ls (o.1.toList ++ [v0, v1]) o.2) else none := ay_virtual (as := [w1, w2, w3]) (st := [v0, v1]) dL_law_932 kc_12_97 rfl rfl (Nat.le_of_ble_eq_true rfl)
theorem sL_law_932_3 : ab_X rom K cL_law 12 2 932 ls [w3, w2, w1, .ref a, v0, v1, v2] hp = if ab_iso hp a 7 = true then (K 140 (.ref a :: [w1, w2, w3]) hp).bind (fun o => ab_X rom K cL_law 12 2 935 ls (o.1.toList ++ [v0, v1, v2]) o.2) else none := ay_virtual (as := [w1, w2, w3]) (st := [v0, v1, v2]) dL_law_932 kc_12_97 rfl rfl (Nat.le_of_ble_eq_true rfl)
theorem dL_law_935 : decode cL_law 935 = .ok (.if_icmp .eq 549, 3) := by decide +kernel
theorem sL_law_935 : ab_X rom K cL_law 12 2 935 ls (.int y :: .int x :: st) hp = if x = y then ab_X rom K cL_law 12 2 1484 ls st hp else ab_X rom K cL_law 12 2 938 ls st hp := ax_icmp_eq dL_law_935 (by decide) rfl
theorem dL_law_940 : decode cL_law 940 = .ok (.aload_n 1, 1) := by decide +kernel
theorem sL_law_940 : ab_X rom K cL_law 12 2 940 (v0 :: .ref a :: ls) st hp = ab_X rom K cL_law 12 2 941 (v0 :: .ref a :: ls) (.ref a :: st) hp := ax_aload_n dL_law_940 rfl rfl
theorem dL_law_941 : decode cL_law 941 = .ok (.aload_n 0, 1) := by decide +kernel
theorem sL_law_941 : ab_X rom K cL_law 12 2 941 (.ref a :: ls) st hp = ab_X rom K cL_law 12 2 942 (.ref a :: ls) (.ref a :: st) hp := ax_aload_n dL_law_941 rfl rfl
theorem dL_law_942 : decode cL_law 942 = .ok (.iload_n 3, 1) := by decide +kernel
theorem sL_law_942 : ab_X rom K cL_law 12 2 942 (v0 :: v1 :: v2 :: .int x :: ls) st hp = ab_X rom K cL_law 12 2 943 (v0 :: v1 :: v2 :: .int x :: ls) (.int x :: st) hp := ax_iload_n dL_law_942 rfl rfl
theorem dL_law_943 : decode cL_law 943 = .ok (.iconst 1, 1) := by decide +kernel
theorem sL_law_943 : ab_X rom K cL_law 12 2 943 ls st hp = ab_X rom K cL_law 12 2 944 ls (.int 1 :: st) hp := ax_iconst dL_law_943 (by decide) rfl
theorem dL_law_944 : decode cL_law 944 = .ok (.iadd, 1) := by decide +kernel
theorem sL_law_944 : ab_X rom K cL_law 12 2 944 ls (.int y :: .int x :: st) hp = ab_X rom K cL_law 12 2 945 ls (.int (x + y) :: st) hp := ax_iadd dL_law_944 rfl
theorem dL_law_945 : decode cL_law 945 = .ok (.iaload, 1) := by decide +kernel
theorem sL_law_945 : ab_X rom K cL_law 12 2 945 ls (.int x :: .ref a :: st) hp = (ab_ard rom 0 hp a x).bind (fun v => ab_X rom K cL_law 12 2 946 ls (.int v :: st) hp) := ax_iaload dL_law_945 rfl
theorem dL_law_946 : decode cL_law 946 = .ok (.aload_n 0, 1) := by decide +kernel
theorem sL_law_946 : ab_X rom K cL_law 12 2 946 (.ref a :: ls) st hp = ab_X rom K cL_law 12 2 947 (.ref a :: ls) (.ref a :: st) hp := ax_aload_n dL_law_946 rfl rfl
theorem dL_law_947 : decode cL_law 947 = .ok (.iload_n 3, 1) := by decide +kernel
theorem sL_law_947 : ab_X rom K cL_law 12 2 947 (v0 :: v1 :: v2 :: .int x :: ls) st hp = ab_X rom K cL_law 12 2 948 (v0 :: v1 :: v2 :: .int x :: ls) (.int x :: st) hp := ax_iload_n dL_law_947 rfl rfl
theorem dL_law_948 : decode cL_law 948 = .ok (.iconst 2, 1) := by decide +kernel
theorem sL_law_948 : ab_X rom K cL_law 12 2 948 ls st hp = ab_X rom K cL_law 12 2 949 ls (.int 2 :: st) hp := ax_iconst dL_law_948 (by decide) rfl
theorem dL_law_949 : decode cL_law 949 = .ok (.iadd, 1) := by decide +kernel
theorem sL_law_949 : ab_X rom K cL_law 12 2 949 ls (.int y :: .int x :: st) hp = ab_X rom K cL_law 12 2 950 ls (.int (x + y) :: st) hp := ax_iadd dL_law_949 rfl
theorem dL_law_950 : decode cL_law 950 = .ok (.iaload, 1) := by decide +kernel
theorem sL_law_950 : ab_X rom K cL_law 12 2 950 ls (.int x :: .ref a :: st) hp = (ab_ard rom 0 hp a x).bind (fun v => ab_X rom K cL_law 12 2 951 ls (.int v :: st) hp) := ax_iaload dL_law_950 rfl
theorem dL_law_951 : decode cL_law 951 = .ok (.invokevirtual 98, 3) := by decide +kernel
theorem sL_law_951_0 : ab_X rom K cL_law 12 2 951 ls [w2, w1, .ref a] hp = if ab_iso hp a 6 = true then (K 118 (.ref a :: [w1, w2]) hp).bind (fun o => ab_X rom K cL_law 12 2 954 ls (o.1.toList ++ []) o.2) else none := ay_virtual (as := [w1, w2]) (st := []) dL_law_951 kc_12_98 rfl rfl (Nat.le_of_ble_eq_true rfl)
theorem sL_law_951_1 : ab_X rom K cL_law 12 2 951 ls [w2, w1, .ref a, v0] hp = if ab_iso hp a 6 = true then (K 118 (.ref a :: [w1, w2]) hp).bind (fun o => ab_X rom K cL_law 12 2 954 ls (o.1.toList ++ [v0]) o.2) else none := ay_virtual (as := [w1, w2]) (st := [v0]) dL_law_951 kc_12_98 rfl rfl (Nat.le_of_ble_eq_true rfl)
theorem sL_law_951_2 : ab_X rom K cL_law 12 2 951 ls [w2, w1, .ref a, v0, v1] hp = if ab_iso hp a 6 = true then (K 118 (.ref a :: [w1, w2]) hp).bind (fun o => ab_X rom K cL_law 12 2 954 ls (o.1.toList ++ [v0, v1]) o.2) else none := ay_virtual (as := [w1, w2]) (st := [v0, v1]) dL_law_951 kc_12_98 rfl rfl (Nat.le_of_ble_eq_true rfl)
theorem sL_law_951_3 : ab_X rom K cL_law 12 2 951 ls [w2, w1, .ref a, v0, v1, v2] hp = if ab_iso hp a 6 = true then (K 118 (.ref a :: [w1, w2]) hp).bind (fun o => ab_X rom K cL_law 12 2 954 ls (o.1.toList ++ [v0, v1, v2]) o.2) else none := ay_virtual (as := [w1, w2]) (st := [v0, v1, v2]) dL_law_951 kc_12_98 rfl rfl (Nat.le_of_ble_eq_true rfl)
theorem dL_law_954 : decode cL_law 954 = .ok (.aload_n 2, 1) := by decide +kernel
theorem sL_law_954 : ab_X rom K cL_law 12 2 954 (v0 :: v1 :: .ref a :: ls) st hp = ab_X rom K cL_law 12 2 955 (v0 :: v1 :: .ref a :: ls) (.ref a :: st) hp := ax_aload_n dL_law_954 rfl rfl
theorem dL_law_955 : decode cL_law 955 = .ok (.aload_n 0, 1) := by decide +kernel
theorem sL_law_955 : ab_X rom K cL_law 12 2 955 (.ref a :: ls) st hp = ab_X rom K cL_law 12 2 956 (.ref a :: ls) (.ref a :: st) hp := ax_aload_n dL_law_955 rfl rfl
theorem dL_law_956 : decode cL_law 956 = .ok (.iload_n 3, 1) := by decide +kernel
theorem sL_law_956 : ab_X rom K cL_law 12 2 956 (v0 :: v1 :: v2 :: .int x :: ls) st hp = ab_X rom K cL_law 12 2 957 (v0 :: v1 :: v2 :: .int x :: ls) (.int x :: st) hp := ax_iload_n dL_law_956 rfl rfl
theorem dL_law_957 : decode cL_law 957 = .ok (.iconst 1, 1) := by decide +kernel
theorem sL_law_957 : ab_X rom K cL_law 12 2 957 ls st hp = ab_X rom K cL_law 12 2 958 ls (.int 1 :: st) hp := ax_iconst dL_law_957 (by decide) rfl
theorem dL_law_958 : decode cL_law 958 = .ok (.iadd, 1) := by decide +kernel
theorem sL_law_958 : ab_X rom K cL_law 12 2 958 ls (.int y :: .int x :: st) hp = ab_X rom K cL_law 12 2 959 ls (.int (x + y) :: st) hp := ax_iadd dL_law_958 rfl
theorem dL_law_959 : decode cL_law 959 = .ok (.iaload, 1) := by decide +kernel
theorem sL_law_959 : ab_X rom K cL_law 12 2 959 ls (.int x :: .ref a :: st) hp = (ab_ard rom 0 hp a x).bind (fun v => ab_X rom K cL_law 12 2 960 ls (.int v :: st) hp) := ax_iaload dL_law_959 rfl
theorem dL_law_960 : decode cL_law 960 = .ok (.aload_n 0, 1) := by decide +kernel
theorem sL_law_960 : ab_X rom K cL_law 12 2 960 (.ref a :: ls) st hp = ab_X rom K cL_law 12 2 961 (.ref a :: ls) (.ref a :: st) hp := ax_aload_n dL_law_960 rfl rfl
theorem dL_law_961 : decode cL_law 961 = .ok (.iload_n 3, 1) := by decide +kernel
theorem sL_law_961 : ab_X rom K cL_law 12 2 961 (v0 :: v1 :: v2 :: .int x :: ls) st hp = ab_X rom K cL_law 12 2 962 (v0 :: v1 :: v2 :: .int x :: ls) (.int x :: st) hp := ax_iload_n dL_law_961 rfl rfl
theorem dL_law_962 : decode cL_law 962 = .ok (.iconst 2, 1) := by decide +kernel
theorem sL_law_962 : ab_X rom K cL_law 12 2 962 ls st hp = ab_X rom K cL_law 12 2 963 ls (.int 2 :: st) hp := ax_iconst dL_law_962 (by decide) rfl
theorem dL_law_963 : decode cL_law 963 = .ok (.iadd, 1) := by decide +kernel
theorem sL_law_963 : ab_X rom K cL_law 12 2 963 ls (.int y :: .int x :: st) hp = ab_X rom K cL_law 12 2 964 ls (.int (x + y) :: st) hp := ax_iadd dL_law_963 rfl
theorem dL_law_964 : decode cL_law 964 = .ok (.iaload, 1) := by decide +kernel
theorem sL_law_964 : ab_X rom K cL_law 12 2 964 ls (.int x :: .ref a :: st) hp = (ab_ard rom 0 hp a x).bind (fun v => ab_X rom K cL_law 12 2 965 ls (.int v :: st) hp) := ax_iaload dL_law_964 rfl
theorem dL_law_965 : decode cL_law 965 = .ok (.invokevirtual 101, 3) := by decide +kernel
theorem sL_law_965_0 : ab_X rom K cL_law 12 2 965 ls [w2, w1, .ref a] hp = if ab_iso hp a 7 = true then (K 228 (.ref a :: [w1, w2]) hp).bind (fun o => ab_X rom K cL_law 12 2 968 ls (o.1.toList ++ []) o.2) else none := ay_virtual (as := [w1, w2]) (st := []) dL_law_965 kc_12_101 rfl rfl (Nat.le_of_ble_eq_true rfl)
theorem sL_law_965_1 : ab_X rom K cL_law 12 2 965 ls [w2, w1, .ref a, v0] hp = if ab_iso hp a 7 = true then (K 228 (.ref a :: [w1, w2]) hp).bind (fun o => ab_X rom K cL_law 12 2 968 ls (o.1.toList ++ [v0]) o.2) else none := ay_virtual (as := [w1, w2]) (st := [v0]) dL_law_965 kc_12_101 rfl rfl (Nat.le_of_ble_eq_true rfl)
theorem sL_law_965_2 : ab_X rom K cL_law 12 2 965 ls [w2, w1, .ref a, v0, v1] hp = if ab_iso hp a 7 = true then (K 228 (.ref a :: [w1, w2]) hp).bind (fun o => ab_X rom K cL_law 12 2 968 ls (o.1.toList ++ [v0, v1]) o.2) else none := ay_virtual (as := [w1, w2]) (st := [v0, v1]) dL_law_965 kc_12_101 rfl rfl (Nat.le_of_ble_eq_true rfl)
theorem sL_law_965_3 : ab_X rom K cL_law 12 2 965 ls [w2, w1, .ref a, v0, v1, v2] hp = if ab_iso hp a 7 = true then (K 228 (.ref a :: [w1, w2]) hp).bind (fun o => ab_X rom K cL_law 12 2 968 ls (o.1.toList ++ [v0, v1, v2]) o.2) else none := ay_virtual (as := [w1, w2]) (st := [v0, v1, v2]) dL_law_965 kc_12_101 rfl rfl (Nat.le_of_ble_eq_true rfl)
theorem dL_law_968 : decode cL_law 968 = .ok (.if_icmp .eq 516, 3) := by decide +kernel
theorem sL_law_968 : ab_X rom K cL_law 12 2 968 ls (.int y :: .int x :: st) hp = if x = y then ab_X rom K cL_law 12 2 1484 ls st hp else ab_X rom K cL_law 12 2 971 ls st hp := ax_icmp_eq dL_law_968 (by decide) rfl
theorem dL_law_973 : decode cL_law 973 = .ok (.aload_n 1, 1) := by decide +kernel
theorem sL_law_973 : ab_X rom K cL_law 12 2 973 (v0 :: .ref a :: ls) st hp = ab_X rom K cL_law 12 2 974 (v0 :: .ref a :: ls) (.ref a :: st) hp := ax_aload_n dL_law_973 rfl rfl
theorem dL_law_974 : decode cL_law 974 = .ok (.aload_n 0, 1) := by decide +kernel
theorem sL_law_974 : ab_X rom K cL_law 12 2 974 (.ref a :: ls) st hp = ab_X rom K cL_law 12 2 975 (.ref a :: ls) (.ref a :: st) hp := ax_aload_n dL_law_974 rfl rfl
theorem dL_law_975 : decode cL_law 975 = .ok (.iload_n 3, 1) := by decide +kernel
theorem sL_law_975 : ab_X rom K cL_law 12 2 975 (v0 :: v1 :: v2 :: .int x :: ls) st hp = ab_X rom K cL_law 12 2 976 (v0 :: v1 :: v2 :: .int x :: ls) (.int x :: st) hp := ax_iload_n dL_law_975 rfl rfl
theorem dL_law_976 : decode cL_law 976 = .ok (.iconst 1, 1) := by decide +kernel
theorem sL_law_976 : ab_X rom K cL_law 12 2 976 ls st hp = ab_X rom K cL_law 12 2 977 ls (.int 1 :: st) hp := ax_iconst dL_law_976 (by decide) rfl
theorem dL_law_977 : decode cL_law 977 = .ok (.iadd, 1) := by decide +kernel
theorem sL_law_977 : ab_X rom K cL_law 12 2 977 ls (.int y :: .int x :: st) hp = ab_X rom K cL_law 12 2 978 ls (.int (x + y) :: st) hp := ax_iadd dL_law_977 rfl
theorem dL_law_978 : decode cL_law 978 = .ok (.iaload, 1) := by decide +kernel
theorem sL_law_978 : ab_X rom K cL_law 12 2 978 ls (.int x :: .ref a :: st) hp = (ab_ard rom 0 hp a x).bind (fun v => ab_X rom K cL_law 12 2 979 ls (.int v :: st) hp) := ax_iaload dL_law_978 rfl
theorem dL_law_979 : decode cL_law 979 = .ok (.aload_n 0, 1) := by decide +kernel
theorem sL_law_979 : ab_X rom K cL_law 12 2 979 (.ref a :: ls) st hp = ab_X rom K cL_law 12 2 980 (.ref a :: ls) (.ref a :: st) hp := ax_aload_n dL_law_979 rfl rfl
theorem dL_law_980 : decode cL_law 980 = .ok (.iload_n 3, 1) := by decide +kernel
theorem sL_law_980 : ab_X rom K cL_law 12 2 980 (v0 :: v1 :: v2 :: .int x :: ls) st hp = ab_X rom K cL_law 12 2 981 (v0 :: v1 :: v2 :: .int x :: ls) (.int x :: st) hp := ax_iload_n dL_law_980 rfl rfl
theorem dL_law_981 : decode cL_law 981 = .ok (.iconst 2, 1) := by decide +kernel
theorem sL_law_981 : ab_X rom K cL_law 12 2 981 ls st hp = ab_X rom K cL_law 12 2 982 ls (.int 2 :: st) hp := ax_iconst dL_law_981 (by decide) rfl
theorem dL_law_982 : decode cL_law 982 = .ok (.iadd, 1) := by decide +kernel
theorem sL_law_982 : ab_X rom K cL_law 12 2 982 ls (.int y :: .int x :: st) hp = ab_X rom K cL_law 12 2 983 ls (.int (x + y) :: st) hp := ax_iadd dL_law_982 rfl
theorem dL_law_983 : decode cL_law 983 = .ok (.iaload, 1) := by decide +kernel
theorem sL_law_983 : ab_X rom K cL_law 12 2 983 ls (.int x :: .ref a :: st) hp = (ab_ard rom 0 hp a x).bind (fun v => ab_X rom K cL_law 12 2 984 ls (.int v :: st) hp) := ax_iaload dL_law_983 rfl
theorem dL_law_984 : decode cL_law 984 = .ok (.invokevirtual 102, 3) := by decide +kernel
theorem sL_law_984_0 : ab_X rom K cL_law 12 2 984 ls [w2, w1, .ref a] hp = if ab_iso hp a 6 = true then (K 124 (.ref a :: [w1, w2]) hp).bind (fun o => ab_X rom K cL_law 12 2 987 ls (o.1.toList ++ []) o.2) else none := ay_virtual (as := [w1, w2]) (st := []) dL_law_984 kc_12_102 rfl rfl (Nat.le_of_ble_eq_true rfl)
theorem sL_law_984_1 : ab_X rom K cL_law 12 2 984 ls [w2, w1, .ref a, v0] hp = if ab_iso hp a 6 = true then (K 124 (.ref a :: [w1, w2]) hp).bind (fun o => ab_X rom K cL_law 12 2 987 ls (o.1.toList ++ [v0]) o.2) else none := ay_virtual (as := [w1, w2]) (st := [v0]) dL_law_984 kc_12_102 rfl rfl (Nat.le_of_ble_eq_true rfl)
theorem sL_law_984_2 : ab_X rom K cL_law 12 2 984 ls [w2, w1, .ref a, v0, v1] hp = if ab_iso hp a 6 = true then (K 124 (.ref a :: [w1, w2]) hp).bind (fun o => ab_X rom K cL_law 12 2 987 ls (o.1.toList ++ [v0, v1]) o.2) else none := ay_virtual (as := [w1, w2]) (st := [v0, v1]) dL_law_984 kc_12_102 rfl rfl (Nat.le_of_ble_eq_true rfl)
theorem sL_law_984_3 : ab_X rom K cL_law 12 2 984 ls [w2, w1, .ref a, v0, v1, v2] hp = if ab_iso hp a 6 = true then (K 124 (.ref a :: [w1, w2]) hp).bind (fun o => ab_X rom K cL_law 12 2 987 ls (o.1.toList ++ [v0, v1, v2]) o.2) else none := ay_virtual (as := [w1, w2]) (st := [v0, v1, v2]) dL_law_984 kc_12_102 rfl rfl (Nat.le_of_ble_eq_true rfl)
theorem dL_law_987 : decode cL_law 987 = .ok (.aload_n 2, 1) := by decide +kernel
theorem sL_law_987 : ab_X rom K cL_law 12 2 987 (v0 :: v1 :: .ref a :: ls) st hp = ab_X rom K cL_law 12 2 988 (v0 :: v1 :: .ref a :: ls) (.ref a :: st) hp := ax_aload_n dL_law_987 rfl rfl
theorem dL_law_988 : decode cL_law 988 = .ok (.aload_n 0, 1) := by decide +kernel
theorem sL_law_988 : ab_X rom K cL_law 12 2 988 (.ref a :: ls) st hp = ab_X rom K cL_law 12 2 989 (.ref a :: ls) (.ref a :: st) hp := ax_aload_n dL_law_988 rfl rfl
theorem dL_law_989 : decode cL_law 989 = .ok (.iload_n 3, 1) := by decide +kernel
theorem sL_law_989 : ab_X rom K cL_law 12 2 989 (v0 :: v1 :: v2 :: .int x :: ls) st hp = ab_X rom K cL_law 12 2 990 (v0 :: v1 :: v2 :: .int x :: ls) (.int x :: st) hp := ax_iload_n dL_law_989 rfl rfl
theorem dL_law_990 : decode cL_law 990 = .ok (.iconst 1, 1) := by decide +kernel
theorem sL_law_990 : ab_X rom K cL_law 12 2 990 ls st hp = ab_X rom K cL_law 12 2 991 ls (.int 1 :: st) hp := ax_iconst dL_law_990 (by decide) rfl
theorem dL_law_991 : decode cL_law 991 = .ok (.iadd, 1) := by decide +kernel
theorem sL_law_991 : ab_X rom K cL_law 12 2 991 ls (.int y :: .int x :: st) hp = ab_X rom K cL_law 12 2 992 ls (.int (x + y) :: st) hp := ax_iadd dL_law_991 rfl
theorem dL_law_992 : decode cL_law 992 = .ok (.iaload, 1) := by decide +kernel
theorem sL_law_992 : ab_X rom K cL_law 12 2 992 ls (.int x :: .ref a :: st) hp = (ab_ard rom 0 hp a x).bind (fun v => ab_X rom K cL_law 12 2 993 ls (.int v :: st) hp) := ax_iaload dL_law_992 rfl
theorem dL_law_993 : decode cL_law 993 = .ok (.aload_n 0, 1) := by decide +kernel
theorem sL_law_993 : ab_X rom K cL_law 12 2 993 (.ref a :: ls) st hp = ab_X rom K cL_law 12 2 994 (.ref a :: ls) (.ref a :: st) hp := ax_aload_n dL_law_993 rfl rfl
theorem dL_law_994 : decode cL_law 994 = .ok (.iload_n 3, 1) := by decide +kernel
theorem sL_law_994 : ab_X rom K cL_law 12 2 994 (v0 :: v1 :: v2 :: .int x :: ls) st hp = ab_X rom K cL_law 12 2 995 (v0 :: v1 :: v2 :: .int x :: ls) (.int x :: st) hp := ax_iload_n dL_law_994 rfl rfl
theorem dL_law_995 : decode cL_law 995 = .ok (.iconst 2, 1) := by decide +kernel
theorem sL_law_995 : ab_X rom K cL_law 12 2 995 ls st hp = ab_X rom K cL_law 12 2 996 ls (.int 2 :: st) hp := ax_iconst dL_law_995 (by decide) rfl
theorem dL_law_996 : decode cL_law 996 = .ok (.iadd, 1) := by decide +kernel
theorem sL_law_996 : ab_X rom K cL_law 12 2 996 ls (.int y :: .int x :: st) hp = ab_X rom K cL_law 12 2 997 ls (.int (x + y) :: st) hp := ax_iadd dL_law_996 rfl
theorem dL_law_997 : decode cL_law 997 = .ok (.iaload, 1) := by decide +kernel
theorem sL_law_997 : ab_X rom K cL_law 12 2 997 ls (.int x :: .ref a :: st) hp = (ab_ard rom 0 hp a x).bind (fun v => ab_X rom K cL_law 12 2 998 ls (.int v :: st) hp) := ax_iaload dL_law_997 rfl
theorem dL_law_998 : decode cL_law 998 = .ok (.invokevirtual 105, 3) := by decide +kernel
theorem sL_law_998_0 : ab_X rom K cL_law 12 2 998 ls [w2, w1, .ref a] hp = if ab_iso hp a 7 = true then (K 234 (.ref a :: [w1, w2]) hp).bind (fun o => ab_X rom K cL_law 12 2 1001 ls (o.1.toList ++ []) o.2) else none := ay_virtual (as := [w1, w2]) (st := []) dL_law_998 kc_12_105 rfl rfl (Nat.le_of_ble_eq_true rfl)
theorem sL_law_998_1 : ab_X rom K cL_law 12 2 998 ls [w2, w1, .ref a, v0] hp = if ab_iso hp a 7 = true then (K 234 (.ref a :: [w1, w2]) hp).bind (fun o => ab_X rom K cL_law 12 2 1001 ls (o.1.toList ++ [v0]) o.2) else none := ay_virtual (as := [w1, w2]) (st := [v0]) dL_law_998 kc_12_105 rfl rfl (Nat.le_of_ble_eq_true rfl)
theorem sL_law_998_2 : ab_X rom K cL_law 12 2 998 ls [w2, w1, .ref a, v0, v1] hp = if ab_iso hp a 7 = true then (K 234 (.ref a :: [w1, w2]) hp).bind (fun o => ab_X rom K cL_law 12 2 1001 ls (o.1.toList ++ [v0, v1]) o.2) else none := ay_virtual (as := [w1, w2]) (st := [v0, v1]) dL_law_998 kc_12_105 rfl rfl (Nat.le_of_ble_eq_true rfl)
theorem sL_law_998_3 : ab_X rom K cL_law 12 2 998 ls [w2, w1, .ref a, v0, v1, v2] hp = if ab_iso hp a 7 = true then (K 234 (.ref a :: [w1, w2]) hp).bind (fun o => ab_X rom K cL_law 12 2 1001 ls (o.1.toList ++ [v0, v1, v2]) o.2) else none := ay_virtual (as := [w1, w2]) (st := [v0, v1, v2]) dL_law_998 kc_12_105 rfl rfl (Nat.le_of_ble_eq_true rfl)
theorem dL_law_1001 : decode cL_law 1001 = .ok (.if_icmp .eq 483, 3) := by decide +kernel
theorem sL_law_1001 : ab_X rom K cL_law 12 2 1001 ls (.int y :: .int x :: st) hp = if x = y then ab_X rom K cL_law 12 2 1484 ls st hp else ab_X rom K cL_law 12 2 1004 ls st hp := ax_icmp_eq dL_law_1001 (by decide) rfl
theorem dL_law_1006 : decode cL_law 1006 = .ok (.aload_n 1, 1) := by decide +kernel
theorem sL_law_1006 : ab_X rom K cL_law 12 2 1006 (v0 :: .ref a :: ls) st hp = ab_X rom K cL_law 12 2 1007 (v0 :: .ref a :: ls) (.ref a :: st) hp := ax_aload_n dL_law_1006 rfl rfl
theorem dL_law_1007 : decode cL_law 1007 = .ok (.aload_n 0, 1) := by decide +kernel
theorem sL_law_1007 : ab_X rom K cL_law 12 2 1007 (.ref a :: ls) st hp = ab_X rom K cL_law 12 2 1008 (.ref a :: ls) (.ref a :: st) hp := ax_aload_n dL_law_1007 rfl rfl
theorem dL_law_1008 : decode cL_law 1008 = .ok (.iload_n 3, 1) := by decide +kernel
theorem sL_law_1008 : ab_X rom K cL_law 12 2 1008 (v0 :: v1 :: v2 :: .int x :: ls) st hp = ab_X rom K cL_law 12 2 1009 (v0 :: v1 :: v2 :: .int x :: ls) (.int x :: st) hp := ax_iload_n dL_law_1008 rfl rfl
theorem dL_law_1009 : decode cL_law 1009 = .ok (.iconst 1, 1) := by decide +kernel
theorem sL_law_1009 : ab_X rom K cL_law 12 2 1009 ls st hp = ab_X rom K cL_law 12 2 1010 ls (.int 1 :: st) hp := ax_iconst dL_law_1009 (by decide) rfl
theorem dL_law_1010 : decode cL_law 1010 = .ok (.iadd, 1) := by decide +kernel
theorem sL_law_1010 : ab_X rom K cL_law 12 2 1010 ls (.int y :: .int x :: st) hp = ab_X rom K cL_law 12 2 1011 ls (.int (x + y) :: st) hp := ax_iadd dL_law_1010 rfl
theorem dL_law_1011 : decode cL_law 1011 = .ok (.iaload, 1) := by decide +kernel
theorem sL_law_1011 : ab_X rom K cL_law 12 2 1011 ls (.int x :: .ref a :: st) hp = (ab_ard rom 0 hp a x).bind (fun v => ab_X rom K cL_law 12 2 1012 ls (.int v :: st) hp) := ax_iaload dL_law_1011 rfl
theorem dL_law_1012 : decode cL_law 1012 = .ok (.aload_n 0, 1) := by decide +kernel
theorem sL_law_1012 : ab_X rom K cL_law 12 2 1012 (.ref a :: ls) st hp = ab_X rom K cL_law 12 2 1013 (.ref a :: ls) (.ref a :: st) hp := ax_aload_n dL_law_1012 rfl rfl
theorem dL_law_1013 : decode cL_law 1013 = .ok (.iload_n 3, 1) := by decide +kernel
theorem sL_law_1013 : ab_X rom K cL_law 12 2 1013 (v0 :: v1 :: v2 :: .int x :: ls) st hp = ab_X rom K cL_law 12 2 1014 (v0 :: v1 :: v2 :: .int x :: ls) (.int x :: st) hp := ax_iload_n dL_law_1013 rfl rfl
theorem dL_law_1014 : decode cL_law 1014 = .ok (.iconst 2, 1) := by decide +kernel
theorem sL_law_1014 : ab_X rom K cL_law 12 2 1014 ls st hp = ab_X rom K cL_law 12 2 1015 ls (.int 2 :: st) hp := ax_iconst dL_law_1014 (by decide) rfl
theorem dL_law_1015 : decode cL_law 1015 = .ok (.iadd, 1) := by decide +kernel
theorem sL_law_1015 : ab_X rom K cL_law 12 2 1015 ls (.int y :: .int x :: st) hp = ab_X rom K cL_law 12 2 1016 ls (.int (x + y) :: st) hp := ax_iadd dL_law_1015 rfl
theorem dL_law_1016 : decode cL_law 1016 = .ok (.iaload, 1) := by decide +kernel
theorem sL_law_1016 : ab_X rom K cL_law 12 2 1016 ls (.int x :: .ref a :: st) hp = (ab_ard rom 0 hp a x).bind (fun v => ab_X rom K cL_law 12 2 1017 ls (.int v :: st) hp) := ax_iaload dL_law_1016 rfl
theorem dL_law_1017 : decode cL_law 1017 = .ok (.invokevirtual 106, 3) := by decide +kernel
theorem sL_law_1017_0 : ab_X rom K cL_law 12 2 1017 ls [w2, w1, .ref a] hp = if ab_iso hp a 6 = true then (K 98 (.ref a :: [w1, w2]) hp).bind (fun o => ab_X rom K cL_law 12 2 1020 ls (o.1.toList ++ []) o.2) else none := ay_virtual (as := [w1, w2]) (st := []) dL_law_1017 kc_12_106 rfl rfl (Nat.le_of_ble_eq_true rfl)
theorem sL_law_1017_1 : ab_X rom K cL_law 12 2 1017 ls [w2, w1, .ref a, v0] hp = if ab_iso hp a 6 = true then (K 98 (.ref a :: [w1, w2]) hp).bind (fun o => ab_X rom K cL_law 12 2 1020 ls (o.1.toList ++ [v0]) o.2) else none := ay_virtual (as := [w1, w2]) (st := [v0]) dL_law_1017 kc_12_106 rfl rfl (Nat.le_of_ble_eq_true rfl)
theorem sL_law_1017_2 : ab_X rom K cL_law 12 2 1017 ls [w2, w1, .ref a, v0, v1] hp = if ab_iso hp a 6 = true then (K 98 (.ref a :: [w1, w2]) hp).bind (fun o => ab_X rom K cL_law 12 2 1020 ls (o.1.toList ++ [v0, v1]) o.2) else none := ay_virtual (as := [w1, w2]) (st := [v0, v1]) dL_law_1017 kc_12_106 rfl rfl (Nat.le_of_ble_eq_true rfl)
theorem sL_law_1017_3 : ab_X rom K cL_law 12 2 1017 ls [w2, w1, .ref a, v0, v1, v2] hp = if ab_iso hp a 6 = true then (K 98 (.ref a :: [w1, w2]) hp).bind (fun o => ab_X rom K cL_law 12 2 1020 ls (o.1.toList ++ [v0, v1, v2]) o.2) else none := ay_virtual (as := [w1, w2]) (st := [v0, v1, v2]) dL_law_1017 kc_12_106 rfl rfl (Nat.le_of_ble_eq_true rfl)
theorem dL_law_1020 : decode cL_law 1020 = .ok (.aload_n 2, 1) := by decide +kernel
theorem sL_law_1020 : ab_X rom K cL_law 12 2 1020 (v0 :: v1 :: .ref a :: ls) st hp = ab_X rom K cL_law 12 2 1021 (v0 :: v1 :: .ref a :: ls) (.ref a :: st) hp := ax_aload_n dL_law_1020 rfl rfl
theorem dL_law_1021 : decode cL_law 1021 = .ok (.aload_n 0, 1) := by decide +kernel
theorem sL_law_1021 : ab_X rom K cL_law 12 2 1021 (.ref a :: ls) st hp = ab_X rom K cL_law 12 2 1022 (.ref a :: ls) (.ref a :: st) hp := ax_aload_n dL_law_1021 rfl rfl
theorem dL_law_1022 : decode cL_law 1022 = .ok (.iload_n 3, 1) := by decide +kernel
theorem sL_law_1022 : ab_X rom K cL_law 12 2 1022 (v0 :: v1 :: v2 :: .int x :: ls) st hp = ab_X rom K cL_law 12 2 1023 (v0 :: v1 :: v2 :: .int x :: ls) (.int x :: st) hp := ax_iload_n dL_law_1022 rfl rfl
theorem dL_law_1023 : decode cL_law 1023 = .ok (.iconst 1, 1) := by decide +kernel
theorem sL_law_1023 : ab_X rom K cL_law 12 2 1023 ls st hp = ab_X rom K cL_law 12 2 1024 ls (.int 1 :: st) hp := ax_iconst dL_law_1023 (by decide) rfl
theorem dL_law_1024 : decode cL_law 1024 = .ok (.iadd, 1) := by decide +kernel
theorem sL_law_1024 : ab_X rom K cL_law 12 2 1024 ls (.int y :: .int x :: st) hp = ab_X rom K cL_law 12 2 1025 ls (.int (x + y) :: st) hp := ax_iadd dL_law_1024 rfl
theorem dL_law_1025 : decode cL_law 1025 = .ok (.iaload, 1) := by decide +kernel
theorem sL_law_1025 : ab_X rom K cL_law 12 2 1025 ls (.int x :: .ref a :: st) hp = (ab_ard rom 0 hp a x).bind (fun v => ab_X rom K cL_law 12 2 1026 ls (.int v :: st) hp) := ax_iaload dL_law_1025 rfl
theorem dL_law_1026 : decode cL_law 1026 = .ok (.aload_n 0, 1) := by decide +kernel
theorem sL_law_1026 : ab_X rom K cL_law 12 2 1026 (.ref a :: ls) st hp = ab_X rom K cL_law 12 2 1027 (.ref a :: ls) (.ref a :: st) hp := ax_aload_n dL_law_1026 rfl rfl
theorem dL_law_1027 : decode cL_law 1027 = .ok (.iload_n 3, 1) := by decide +kernel
theorem sL_law_1027 : ab_X rom K cL_law 12 2 1027 (v0 :: v1 :: v2 :: .int x :: ls) st hp = ab_X rom K cL_law 12 2 1028 (v0 :: v1 :: v2 :: .int x :: ls) (.int x :: st) hp := ax_iload_n dL_law_1027 rfl rfl
theorem dL_law_1028 : decode cL_law 1028 = .ok (.iconst 2, 1) := by decide +kernel
theorem sL_law_1028 : ab_X rom K cL_law 12 2 1028 ls st hp = ab_X rom K cL_law 12 2 1029 ls (.int 2 :: st) hp := ax_iconst dL_law_1028 (by decide) rfl
theorem dL_law_1029 : decode cL_law 1029 = .ok (.iadd, 1) := by decide +kernel
theorem sL_law_1029 : ab_X rom K cL_law 12 2 1029 ls (.int y :: .int x :: st) hp = ab_X rom K cL_law 12 2 1030 ls (.int (x + y) :: st) hp := ax_iadd dL_law_1029 rfl
theorem dL_law_1030 : decode cL_law 1030 = .ok (.iaload, 1) := by decide +kernel
theorem sL_law_1030 : ab_X rom K cL_law 12 2 1030 ls (.int x :: .ref a :: st) hp = (ab_ard rom 0 hp a x).bind (fun v => ab_X rom K cL_law 12 2 1031 ls (.int v :: st) hp) := ax_iaload dL_law_1030 rfl
theorem dL_law_1031 : decode cL_law 1031 = .ok (.invokevirtual 109, 3) := by decide +kernel
theorem sL_law_1031_0 : ab_X rom K cL_law 12 2 1031 ls [w2, w1, .ref a] hp = if ab_iso hp a 7 = true then (K 158 (.ref a :: [w1, w2]) hp).bind (fun o => ab_X rom K cL_law 12 2 1034 ls (o.1.toList ++ []) o.2) else none := ay_virtual (as := [w1, w2]) (st := []) dL_law_1031 kc_12_109 rfl rfl (Nat.le_of_ble_eq_true rfl)
theorem sL_law_1031_1 : ab_X rom K cL_law 12 2 1031 ls [w2, w1, .ref a, v0] hp = if ab_iso hp a 7 = true then (K 158 (.ref a :: [w1, w2]) hp).bind (fun o => ab_X rom K cL_law 12 2 1034 ls (o.1.toList ++ [v0]) o.2) else none := ay_virtual (as := [w1, w2]) (st := [v0]) dL_law_1031 kc_12_109 rfl rfl (Nat.le_of_ble_eq_true rfl)
theorem sL_law_1031_2 : ab_X rom K cL_law 12 2 1031 ls [w2, w1, .ref a, v0, v1] hp = if ab_iso hp a 7 = true then (K 158 (.ref a :: [w1, w2]) hp).bind (fun o => ab_X rom K cL_law 12 2 1034 ls (o.1.toList ++ [v0, v1]) o.2) else none := ay_virtual (as := [w1, w2]) (st := [v0, v1]) dL_law_1031 kc_12_109 rfl rfl (Nat.le_of_ble_eq_true rfl)
theorem sL_law_1031_3 : ab_X rom K cL_law 12 2 1031 ls [w2, w1, .ref a, v0, v1, v2] hp = if ab_iso hp a 7 = true then (K 158 (.ref a :: [w1, w2]) hp).bind (fun o => ab_X rom K cL_law 12 2 1034 ls (o.1.toList ++ [v0, v1, v2]) o.2) else none := ay_virtual (as := [w1, w2]) (st := [v0, v1, v2]) dL_law_1031 kc_12_109 rfl rfl (Nat.le_of_ble_eq_true rfl)
theorem dL_law_1034 : decode cL_law 1034 = .ok (.if_icmp .eq 450, 3) := by decide +kernel
theorem sL_law_1034 : ab_X rom K cL_law 12 2 1034 ls (.int y :: .int x :: st) hp = if x = y then ab_X rom K cL_law 12 2 1484 ls st hp else ab_X rom K cL_law 12 2 1037 ls st hp := ax_icmp_eq dL_law_1034 (by decide) rfl
theorem dL_law_1039 : decode cL_law 1039 = .ok (.aload_n 1, 1) := by decide +kernel
theorem sL_law_1039 : ab_X rom K cL_law 12 2 1039 (v0 :: .ref a :: ls) st hp = ab_X rom K cL_law 12 2 1040 (v0 :: .ref a :: ls) (.ref a :: st) hp := ax_aload_n dL_law_1039 rfl rfl
theorem dL_law_1040 : decode cL_law 1040 = .ok (.aload_n 0, 1) := by decide +kernel
theorem sL_law_1040 : ab_X rom K cL_law 12 2 1040 (.ref a :: ls) st hp = ab_X rom K cL_law 12 2 1041 (.ref a :: ls) (.ref a :: st) hp := ax_aload_n dL_law_1040 rfl rfl
theorem dL_law_1041 : decode cL_law 1041 = .ok (.iload_n 3, 1) := by decide +kernel
theorem sL_law_1041 : ab_X rom K cL_law 12 2 1041 (v0 :: v1 :: v2 :: .int x :: ls) st hp = ab_X rom K cL_law 12 2 1042 (v0 :: v1 :: v2 :: .int x :: ls) (.int x :: st) hp := ax_iload_n dL_law_1041 rfl rfl
end
