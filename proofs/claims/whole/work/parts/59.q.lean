/-! LITERALS, AND SWITCHES, BY qI (printed by wip/whole/gen_q.py) -/
theorem ql_0 : (0 : Int32) = qI 0 := rfl
theorem ql_1 : (1 : Int32) = qI 1 := rfl
theorem ql_2 : (2 : Int32) = qI 2 := rfl
theorem ql_3 : (3 : Int32) = qI 3 := rfl
theorem ql_4 : (4 : Int32) = qI 4 := rfl
theorem ql_5 : (5 : Int32) = qI 5 := rfl
theorem ql_6 : (6 : Int32) = qI 6 := rfl
theorem ql_7 : (7 : Int32) = qI 7 := rfl
theorem ql_8 : (8 : Int32) = qI 8 := rfl
theorem ql_9 : (9 : Int32) = qI 9 := rfl
theorem ql_10 : (10 : Int32) = qI 10 := rfl
theorem ql_11 : (11 : Int32) = qI 11 := rfl
theorem ql_12 : (12 : Int32) = qI 12 := rfl
theorem ql_13 : (13 : Int32) = qI 13 := rfl
theorem ql_14 : (14 : Int32) = qI 14 := rfl
theorem ql_15 : (15 : Int32) = qI 15 := rfl
theorem ql_16 : (16 : Int32) = qI 16 := rfl
theorem ql_17 : (17 : Int32) = qI 17 := rfl
theorem ql_18 : (18 : Int32) = qI 18 := rfl
theorem ql_19 : (19 : Int32) = qI 19 := rfl
theorem ql_20 : (20 : Int32) = qI 20 := rfl
theorem ql_21 : (21 : Int32) = qI 21 := rfl
theorem ql_22 : (22 : Int32) = qI 22 := rfl
theorem ql_23 : (23 : Int32) = qI 23 := rfl
theorem ql_24 : (24 : Int32) = qI 24 := rfl
theorem ql_30 : (30 : Int32) = qI 30 := rfl
theorem ql_31 : (31 : Int32) = qI 31 := rfl
theorem ql_32 : (32 : Int32) = qI 32 := rfl
theorem ql_40 : (40 : Int32) = qI 40 := rfl
theorem ql_44 : (44 : Int32) = qI 44 := rfl
theorem ql_45 : (45 : Int32) = qI 45 := rfl
theorem ql_48 : (48 : Int32) = qI 48 := rfl
theorem ql_57 : (57 : Int32) = qI 57 := rfl
theorem ql_58 : (58 : Int32) = qI 58 := rfl
theorem ql_59 : (59 : Int32) = qI 59 := rfl
theorem ql_61 : (61 : Int32) = qI 61 := rfl
theorem ql_63 : (63 : Int32) = qI 63 := rfl
theorem ql_66 : (66 : Int32) = qI 66 := rfl
theorem ql_97 : (97 : Int32) = qI 97 := rfl
theorem ql_99 : (99 : Int32) = qI 99 := rfl
theorem ql_100 : (100 : Int32) = qI 100 := rfl
theorem ql_101 : (101 : Int32) = qI 101 := rfl
theorem ql_110 : (110 : Int32) = qI 110 := rfl
theorem ql_116 : (116 : Int32) = qI 116 := rfl
theorem ql_120 : (120 : Int32) = qI 120 := rfl
theorem ql_122 : (122 : Int32) = qI 122 := rfl
theorem ql_127 : (127 : Int32) = qI 127 := rfl
theorem ql_128 : (128 : Int32) = qI 128 := rfl
theorem ql_255 : (255 : Int32) = qI 255 := rfl
theorem ql_256 : (256 : Int32) = qI 256 := rfl
theorem ql_380 : (380 : Int32) = qI 380 := rfl
theorem ql_400 : (400 : Int32) = qI 400 := rfl
theorem ql_405 : (405 : Int32) = qI 405 := rfl
theorem ql_450 : (450 : Int32) = qI 450 := rfl
theorem ql_1000 : (1000 : Int32) = qI 1000 := rfl
theorem ql_65536 : (65536 : Int32) = qI 65536 := rfl
theorem ql_1398101 : (1398101 : Int32) = qI 1398101 := rfl
theorem ql_252645135 : (252645135 : Int32) = qI 252645135 := rfl
theorem ql_858993459 : (858993459 : Int32) = qI 858993459 := rfl
theorem ql_1431655765 : (1431655765 : Int32) = qI 1431655765 := rfl
theorem ql_2000000000 : (2000000000 : Int32) = qI 2000000000 := rfl
section
variable {rom : List (List Int32)} {K : Nat → List Value → ab_H → Option ab_O} {ls st : List Value} {hp : ab_H} {w : Int}
theorem tX8_count_1_0 : ab_X rom K cX8_count 6 1 1 ls (.int (qI 0) :: st) hp = ab_X rom K cX8_count 6 1 32 ls st hp := sX8_count_1_0
theorem tX8_count_1_1 : ab_X rom K cX8_count 6 1 1 ls (.int (qI 1) :: st) hp = ab_X rom K cX8_count 6 1 37 ls st hp := sX8_count_1_1
theorem tX8_count_1_2 : ab_X rom K cX8_count 6 1 1 ls (.int (qI 2) :: st) hp = ab_X rom K cX8_count 6 1 45 ls st hp := sX8_count_1_2
theorem tX8_count_1_3 : ab_X rom K cX8_count 6 1 1 ls (.int (qI 3) :: st) hp = ab_X rom K cX8_count 6 1 53 ls st hp := sX8_count_1_3
theorem tX8_look_19_0 : ab_X rom K cX8_look 6 1 19 ls (.int (qI 0) :: st) hp = ab_X rom K cX8_look 6 1 64 ls st hp := sX8_look_19_0
theorem tX8_look_19_1 : ab_X rom K cX8_look 6 1 19 ls (.int (qI 1) :: st) hp = ab_X rom K cX8_look 6 1 69 ls st hp := sX8_look_19_1
theorem tX8_look_19_2 : ab_X rom K cX8_look 6 1 19 ls (.int (qI 2) :: st) hp = ab_X rom K cX8_look 6 1 74 ls st hp := sX8_look_19_2
theorem tX8_look_19_3 : ab_X rom K cX8_look 6 1 19 ls (.int (qI 3) :: st) hp = ab_X rom K cX8_look 6 1 79 ls st hp := sX8_look_19_3
theorem tX8_look_19_4 : ab_X rom K cX8_look 6 1 19 ls (.int (qI 4) :: st) hp = ab_X rom K cX8_look 6 1 92 ls st hp := sX8_look_19_4
theorem tX8_look_19_5 : ab_X rom K cX8_look 6 1 19 ls (.int (qI 5) :: st) hp = ab_X rom K cX8_look 6 1 105 ls st hp := sX8_look_19_5
theorem tX8_look_19_6 : ab_X rom K cX8_look 6 1 19 ls (.int (qI 6) :: st) hp = ab_X rom K cX8_look 6 1 110 ls st hp := sX8_look_19_6
theorem tX8_look_19_7 : ab_X rom K cX8_look 6 1 19 ls (.int (qI 7) :: st) hp = ab_X rom K cX8_look 6 1 115 ls st hp := sX8_look_19_7
theorem tX9_count_34_0 : ab_X rom K cX9_count 7 1 34 ls (.int (qI 0) :: st) hp = ab_X rom K cX9_count 7 1 64 ls st hp := sX9_count_34_0
theorem tX9_count_34_1 : ab_X rom K cX9_count 7 1 34 ls (.int (qI 1) :: st) hp = ab_X rom K cX9_count 7 1 66 ls st hp := sX9_count_34_1
theorem tX9_count_34_2 : ab_X rom K cX9_count 7 1 34 ls (.int (qI 2) :: st) hp = ab_X rom K cX9_count 7 1 71 ls st hp := sX9_count_34_2
theorem tX9_count_34_3 : ab_X rom K cX9_count 7 1 34 ls (.int (qI 3) :: st) hp = ab_X rom K cX9_count 7 1 76 ls st hp := sX9_count_34_3
theorem tX9_isBarred_14_0 : ab_X rom K cX9_isBarred 7 2 14 ls (.int (qI 0) :: st) hp = ab_X rom K cX9_isBarred 7 2 44 ls st hp := sX9_isBarred_14_0
theorem tX9_isBarred_14_1 : ab_X rom K cX9_isBarred 7 2 14 ls (.int (qI 1) :: st) hp = ab_X rom K cX9_isBarred 7 2 81 ls st hp := sX9_isBarred_14_1
theorem tX9_isBarred_14_2 : ab_X rom K cX9_isBarred 7 2 14 ls (.int (qI 2) :: st) hp = ab_X rom K cX9_isBarred 7 2 104 ls st hp := sX9_isBarred_14_2
theorem tX9_isBarred_14_3 : ab_X rom K cX9_isBarred 7 2 14 ls (.int (qI 3) :: st) hp = ab_X rom K cX9_isBarred 7 2 155 ls st hp := sX9_isBarred_14_3
theorem tX9_look_55_0 : ab_X rom K cX9_look 7 1 55 ls (.int (qI 0) :: st) hp = ab_X rom K cX9_look 7 1 100 ls st hp := sX9_look_55_0
theorem tX9_look_55_1 : ab_X rom K cX9_look 7 1 55 ls (.int (qI 1) :: st) hp = ab_X rom K cX9_look 7 1 106 ls st hp := sX9_look_55_1
theorem tX9_look_55_2 : ab_X rom K cX9_look 7 1 55 ls (.int (qI 2) :: st) hp = ab_X rom K cX9_look 7 1 112 ls st hp := sX9_look_55_2
theorem tX9_look_55_3 : ab_X rom K cX9_look 7 1 55 ls (.int (qI 3) :: st) hp = ab_X rom K cX9_look 7 1 114 ls st hp := sX9_look_55_3
theorem tX9_look_55_4 : ab_X rom K cX9_look 7 1 55 ls (.int (qI 4) :: st) hp = ab_X rom K cX9_look 7 1 128 ls st hp := sX9_look_55_4
theorem tX9_look_55_5 : ab_X rom K cX9_look 7 1 55 ls (.int (qI 5) :: st) hp = ab_X rom K cX9_look 7 1 142 ls st hp := sX9_look_55_5
theorem tX9_look_55_6 : ab_X rom K cX9_look 7 1 55 ls (.int (qI 6) :: st) hp = ab_X rom K cX9_look 7 1 148 ls st hp := sX9_look_55_6
theorem tX9_look_55_7 : ab_X rom K cX9_look 7 1 55 ls (.int (qI 7) :: st) hp = ab_X rom K cX9_look 7 1 155 ls st hp := sX9_look_55_7
theorem tX1_greatestLabel_1_0 : ab_X rom K cX1_greatestLabel 8 1 1 ls (.int (qI 2) :: st) hp = ab_X rom K cX1_greatestLabel 8 1 28 ls st hp := sX1_greatestLabel_1_0
theorem tX1_greatestLabel_1_1 : ab_X rom K cX1_greatestLabel 8 1 1 ls (.int (qI 3) :: st) hp = ab_X rom K cX1_greatestLabel 8 1 32 ls st hp := sX1_greatestLabel_1_1
theorem tX1_greatestLabel_1_2 : ab_X rom K cX1_greatestLabel 8 1 1 ls (.int (qI 4) :: st) hp = ab_X rom K cX1_greatestLabel 8 1 38 ls st hp := sX1_greatestLabel_1_2
theorem tX1_hasShape_1_0 : ab_X rom K cX1_hasShape 8 2 1 ls (.int (qI 1) :: st) hp = ab_X rom K cX1_hasShape 8 2 32 ls st hp := sX1_hasShape_1_0
theorem tX1_hasShape_1_1 : ab_X rom K cX1_hasShape 8 2 1 ls (.int (qI 2) :: st) hp = ab_X rom K cX1_hasShape 8 2 55 ls st hp := sX1_hasShape_1_1
theorem tX1_hasShape_1_2 : ab_X rom K cX1_hasShape 8 2 1 ls (.int (qI 3) :: st) hp = ab_X rom K cX1_hasShape 8 2 41 ls st hp := sX1_hasShape_1_2
theorem tX1_hasShape_1_3 : ab_X rom K cX1_hasShape 8 2 1 ls (.int (qI 4) :: st) hp = ab_X rom K cX1_hasShape 8 2 46 ls st hp := sX1_hasShape_1_3
theorem tX1_isBarred_8_0 : ab_X rom K cX1_isBarred 8 2 8 ls (.int (qI 0) :: st) hp = ab_X rom K cX1_isBarred 8 2 40 ls st hp := sX1_isBarred_8_0
theorem tX1_isBarred_8_1 : ab_X rom K cX1_isBarred 8 2 8 ls (.int (qI 1) :: st) hp = ab_X rom K cX1_isBarred 8 2 40 ls st hp := sX1_isBarred_8_1
theorem tX1_isBarred_8_2 : ab_X rom K cX1_isBarred 8 2 8 ls (.int (qI 2) :: st) hp = ab_X rom K cX1_isBarred 8 2 88 ls st hp := sX1_isBarred_8_2
theorem tX1_isBarred_8_3 : ab_X rom K cX1_isBarred 8 2 8 ls (.int (qI 3) :: st) hp = ab_X rom K cX1_isBarred 8 2 126 ls st hp := sX1_isBarred_8_3
theorem tX2_makeFamily_1_0 : ab_X rom K cX2_makeFamily 9 2 1 ls (.int (qI 0) :: st) hp = ab_X rom K cX2_makeFamily 9 2 36 ls st hp := sX2_makeFamily_1_0
theorem tX2_makeFamily_1_1 : ab_X rom K cX2_makeFamily 9 2 1 ls (.int (qI 1) :: st) hp = ab_X rom K cX2_makeFamily 9 2 61 ls st hp := sX2_makeFamily_1_1
theorem tX2_makeFamily_1_2 : ab_X rom K cX2_makeFamily 9 2 1 ls (.int (qI 2) :: st) hp = ab_X rom K cX2_makeFamily 9 2 87 ls st hp := sX2_makeFamily_1_2
theorem tX2_makeFamily_1_3 : ab_X rom K cX2_makeFamily 9 2 1 ls (.int (qI 3) :: st) hp = ab_X rom K cX2_makeFamily 9 2 112 ls st hp := sX2_makeFamily_1_3
theorem tX2_makeFamily_1_4 : ab_X rom K cX2_makeFamily 9 2 1 ls (.int (qI 4) :: st) hp = ab_X rom K cX2_makeFamily 9 2 136 ls st hp := sX2_makeFamily_1_4
theorem tX8_count_1_d (h1 : -2147483648 ≤ w) (h2 : w < 2147483648) (h : w < 0 ∨ 3 < w) : ab_X rom K cX8_count 6 1 1 ls (.int (qI w) :: st) hp = ab_X rom K cX8_count 6 1 61 ls st hp := sX8_count_1_d (by rw [qI_toInt h1 h2]; exact h)
theorem tX8_look_19_d (h1 : -2147483648 ≤ w) (h2 : w < 2147483648) (h : w < 0 ∨ 7 < w) : ab_X rom K cX8_look 6 1 19 ls (.int (qI w) :: st) hp = ab_X rom K cX8_look 6 1 120 ls st hp := sX8_look_19_d (by rw [qI_toInt h1 h2]; exact h)
theorem tX9_count_34_d (h1 : -2147483648 ≤ w) (h2 : w < 2147483648) (h : w < 0 ∨ 3 < w) : ab_X rom K cX9_count 7 1 34 ls (.int (qI w) :: st) hp = ab_X rom K cX9_count 7 1 81 ls st hp := sX9_count_34_d (by rw [qI_toInt h1 h2]; exact h)
theorem tX9_isBarred_14_d (h1 : -2147483648 ≤ w) (h2 : w < 2147483648) (h : w < 0 ∨ 3 < w) : ab_X rom K cX9_isBarred 7 2 14 ls (.int (qI w) :: st) hp = ab_X rom K cX9_isBarred 7 2 177 ls st hp := sX9_isBarred_14_d (by rw [qI_toInt h1 h2]; exact h)
theorem tX9_look_55_d (h1 : -2147483648 ≤ w) (h2 : w < 2147483648) (h : w < 0 ∨ 7 < w) : ab_X rom K cX9_look 7 1 55 ls (.int (qI w) :: st) hp = ab_X rom K cX9_look 7 1 162 ls st hp := sX9_look_55_d (by rw [qI_toInt h1 h2]; exact h)
theorem tX1_greatestLabel_1_d (h1 : -2147483648 ≤ w) (h2 : w < 2147483648) (h : w < 2 ∨ 4 < w) : ab_X rom K cX1_greatestLabel 8 1 1 ls (.int (qI w) :: st) hp = ab_X rom K cX1_greatestLabel 8 1 40 ls st hp := sX1_greatestLabel_1_d (by rw [qI_toInt h1 h2]; exact h)
theorem tX1_hasShape_1_d (h1 : -2147483648 ≤ w) (h2 : w < 2147483648) (h : w < 1 ∨ 4 < w) : ab_X rom K cX1_hasShape 8 2 1 ls (.int (qI w) :: st) hp = ab_X rom K cX1_hasShape 8 2 55 ls st hp := sX1_hasShape_1_d (by rw [qI_toInt h1 h2]; exact h)
theorem tX1_isBarred_8_d (h1 : -2147483648 ≤ w) (h2 : w < 2147483648) (h : w < 0 ∨ 3 < w) : ab_X rom K cX1_isBarred 8 2 8 ls (.int (qI w) :: st) hp = ab_X rom K cX1_isBarred 8 2 152 ls st hp := sX1_isBarred_8_d (by rw [qI_toInt h1 h2]; exact h)
theorem tX2_makeFamily_1_d (h1 : -2147483648 ≤ w) (h2 : w < 2147483648) (h : w < 0 ∨ 4 < w) : ab_X rom K cX2_makeFamily 9 2 1 ls (.int (qI w) :: st) hp = ab_X rom K cX2_makeFamily 9 2 183 ls st hp := sX2_makeFamily_1_d (by rw [qI_toInt h1 h2]; exact h)
end
