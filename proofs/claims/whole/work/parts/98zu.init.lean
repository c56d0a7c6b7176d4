/-! CONSTRUCTORS: the leaves, at the end of any heap -/
section
variable {rom : List (List Int32)} {d : Nat} {hp rest : ab_H} {ci k : Nat} {fs : List Value} {v : Value}
theorem at_end {x : ab_C} : (hp ++ x :: rest)[hp.length]? = some x := by
  rw [List.getElem?_append_right (Nat.le_refl _), Nat.sub_self]
  rfl
theorem set_end {x y : ab_C} : (hp ++ x :: rest).set hp.length y = hp ++ y :: rest := by
  rw [List.set_append_right _ _ (Nat.le_refl _), Nat.sub_self]
  rfl
theorem fpt_end (h : k < fs.length) : ab_fpt (hp ++ .inr (.inr (ci, fs)) :: rest) hp.length ci k v = some (hp ++ .inr (.inr (ci, fs.set k v)) :: rest) := by
  rw [ab_fpt_at at_end h, set_end]
theorem iso_end : ab_iso (hp ++ .inr (.inr (ci, fs)) :: rest) hp.length ci = true := ab_iso_at at_end
theorem if_na {R : Type} {x : Int32} {m L : Nat} {A B : R} {hd : Decidable (¬ x < 0 ∧ m ≤ 1000 ∧ L < ab_RO)} (h1 : ¬ x < 0) (h2 : m ≤ 1000) (h3 : L < ab_RO) : (if ¬ x < 0 ∧ m ≤ 1000 ∧ L < ab_RO then A else B) = A := if_pos ⟨h1, h2, h3⟩
theorem tc_400 : (400 : Int32).toNatClampNeg = 400 := by decide
theorem tc_450 : (450 : Int32).toNatClampNeg = 450 := by decide
theorem tc_256 : (256 : Int32).toNatClampNeg = 256 := by decide
theorem tc_128 : (128 : Int32).toNatClampNeg = 128 := by decide
theorem tc_120 : (120 : Int32).toNatClampNeg = 120 := by decide
theorem tc_66 : (66 : Int32).toNatClampNeg = 66 := by decide
theorem tc_45 : (45 : Int32).toNatClampNeg = 45 := by decide
theorem tc_21 : (21 : Int32).toNatClampNeg = 21 := by decide
theorem tc_15 : (15 : Int32).toNatClampNeg = 15 := by decide
theorem tc_12 : (12 : Int32).toNatClampNeg = 12 := by decide
theorem tc_11 : (11 : Int32).toNatClampNeg = 11 := by decide
theorem tc_10 : (10 : Int32).toNatClampNeg = 10 := by decide
theorem tc_7 : (7 : Int32).toNatClampNeg = 7 := by decide
theorem tc_3 : (3 : Int32).toNatClampNeg = 3 := by decide
def row0 (n : Nat) : ab_C := .inl (0, List.replicate n 0)
def tape0 (L : Nat) : ab_H := [.inr (.inr (5, [.ref (L + 1), .int 0])), row0 400]
def net0 (L : Nat) : ab_H := [.inr (.inr (1, [.int 0, .int 0, .ref (L + 1), .ref (L + 2), .ref (L + 3), .ref (L + 4)])), row0 10, row0 10, row0 7, row0 7]
def cens0 (L : Nat) : ab_H := [.inr (.inr (0, [.int 0, .ref (L + 1), .int (-1), .ref (L + 2), .int 0, .ref (L + 3), .ref (L + 4)])), row0 7, row0 21, row0 7, row0 128]
theorem i_tape (hl : hp.length + 20 < ab_RO) : ab_M rom (d + 1) 75 [.ref hp.length] (hp ++ [.inr (.inr (5, [.null, .int 0]))]) = some (none, hp ++ tape0 hp.length) := by
  rw [mX7_init]
  simp (disch := (first | exact Nat.le_of_ble_eq_true rfl | decide | ((try simp only [List.length_append, List.length_cons, List.length_nil, List.length_set]); omega))) only [sX7_init_0, sX7_init_1_0, sX7_init_1_1, sX7_init_1_2, sX7_init_1_3, sX7_init_4, sX7_init_5, sX7_init_8, sX7_init_10, sX7_init_13, sX7_init_14, sX7_init_15, sX7_init_18, if_na, tc_400, List.append_assoc, List.cons_append, List.nil_append, fpt_end, Option.bind_some]
  simp only [List.length_append, List.length_cons, List.length_nil]
  rfl
theorem i_net (hl : hp.length + 20 < ab_RO) : ab_M rom (d + 1) 11 [.ref hp.length] (hp ++ [.inr (.inr (1, [.int 0, .int 0, .null, .null, .null, .null]))]) = some (none, hp ++ net0 hp.length) := by
  rw [mX3_init]
  simp (disch := (first | exact Nat.le_of_ble_eq_true rfl | decide | ((try simp only [List.length_append, List.length_cons, List.length_nil, List.length_set]); omega))) only [sX3_init_0, sX3_init_1_0, sX3_init_1_1, sX3_init_1_2, sX3_init_1_3, sX3_init_4, sX3_init_5, sX3_init_6, sX3_init_9, sX3_init_10, sX3_init_11, sX3_init_14, sX3_init_15, sX3_init_17, sX3_init_19, sX3_init_22, sX3_init_23, sX3_init_25, sX3_init_27, sX3_init_30, sX3_init_31, sX3_init_33, sX3_init_35, sX3_init_38, sX3_init_39, sX3_init_41, sX3_init_43, sX3_init_46, if_na, tc_10, tc_7, List.append_assoc, List.cons_append, List.nil_append, fpt_end, Option.bind_some]
  simp only [List.length_append, List.length_cons, List.length_nil]
  rfl
theorem i_census (hl : hp.length + 20 < ab_RO) : ab_M rom (d + 1) 0 [.ref hp.length] (hp ++ [.inr (.inr (0, [.int 0, .null, .int 0, .null, .int 0, .null, .null]))]) = some (none, hp ++ cens0 hp.length) := by
  rw [mX0_init]
  simp (disch := (first | exact Nat.le_of_ble_eq_true rfl | decide | ((try simp only [List.length_append, List.length_cons, List.length_nil, List.length_set]); omega))) only [sX0_init_0, sX0_init_1_0, sX0_init_1_1, sX0_init_1_2, sX0_init_1_3, sX0_init_4, sX0_init_5, sX0_init_6, sX0_init_9, sX0_init_10, sX0_init_12, sX0_init_14, sX0_init_17, sX0_init_18, sX0_init_19, sX0_init_22, sX0_init_23, sX0_init_25, sX0_init_27, sX0_init_30, sX0_init_31, sX0_init_32, sX0_init_35, sX0_init_36, sX0_init_38, sX0_init_40, sX0_init_43, sX0_init_44, sX0_init_47, sX0_init_49, sX0_init_52, if_na, tc_7, tc_21, tc_128, List.append_assoc, List.cons_append, List.nil_append, fpt_end, Option.bind_some, true_or, or_true, if_true]
  simp only [List.length_append, List.length_cons, List.length_nil]
  rfl
def read0 (t n : Nat) : ab_H := [.inr (.inr (3, [.int 0, .int (-1), .ref t, .ref n, .int 0, .int 0, .int 0, .int 0]))]
theorem i_reader {t n : Nat} : ab_M rom (d + 1) 38 [.ref hp.length, .ref t, .ref n] (hp ++ [.inr (.inr (3, [.int 0, .int 0, .null, .null, .int 0, .int 0, .int 0, .int 0]))]) = some (none, hp ++ read0 t n) := by
  rw [mX5_init]
  simp (disch := (first | exact Nat.le_of_ble_eq_true rfl | decide | ((try simp only [List.length_append, List.length_cons, List.length_nil, List.length_set]); omega))) only [sX5_init_0, sX5_init_1_0, sX5_init_1_1, sX5_init_1_2, sX5_init_1_3, sX5_init_4, sX5_init_5, sX5_init_6, sX5_init_9, sX5_init_10, sX5_init_11, sX5_init_14, sX5_init_15, sX5_init_16, sX5_init_19, sX5_init_20, sX5_init_21, sX5_init_24, sX5_init_25, sX5_init_26, sX5_init_29, sX5_init_30, sX5_init_31, sX5_init_34, sX5_init_35, sX5_init_36, sX5_init_39, sX5_init_40, sX5_init_41, sX5_init_44, List.append_assoc, List.cons_append, List.nil_append, fpt_end, Option.bind_some]
  rfl
def sear0 (L n : Nat) : ab_H := [.inr (.inr (4, [.ref (L + 1), .ref (L + 6), .ref (L + 7), .ref (L + 8), .ref (L + 9), .ref n, .int 0, .int 0, .int 0, .int 0, .int 0, .int 0, .int 0, .int 0, .int 0]))] ++ cens0 (L + 1) ++ [row0 7, row0 21, row0 7, row0 7]
theorem i_search {n : Nat} (hl : hp.length + 100 < ab_RO) : ab_M rom (d + 2) 57 [.ref hp.length, .ref n] (hp ++ [.inr (.inr (4, [.null, .null, .null, .null, .null, .null, .int 0, .int 0, .int 0, .int 0, .int 0, .int 0, .int 0, .int 0, .int 0]))]) = some (none, hp ++ sear0 hp.length n) := by
  have q := i_census (rom := rom) (d := d) (hp := hp ++ [.inr (.inr (4, [.null, .null, .null, .null, .null, .null, .int 0, .int 0, .int 0, .int 0, .int 0, .int 0, .int 0, .int 0, .int 0]))]) (by rw [List.length_append]; show hp.length + 1 + 20 < ab_RO; omega)
  have hi := iso_end (hp := hp ++ [.inr (.inr (4, [.null, .null, .null, .null, .null, .null, .int 0, .int 0, .int 0, .int 0, .int 0, .int 0, .int 0, .int 0, .int 0]))]) (rest := []) (ci := 0) (fs := [.int 0, .null, .int 0, .null, .int 0, .null, .null])
  simp only [List.append_assoc, List.cons_append, List.nil_append, List.length_append, List.length_cons, List.length_nil] at q hi
  rw [mX6_init]
  simp (maxSteps := 3000000) (disch := (first | assumption | exact Nat.le_of_ble_eq_true rfl | decide | ((try simp only [List.length_append, List.length_cons, List.length_nil, List.length_set]); omega))) only [sX6_init_0, sX6_init_1_0, sX6_init_1_1, sX6_init_1_2, sX6_init_1_3, sX6_init_4, sX6_init_5, sX6_init_8i, sX6_init_8r, sX6_init_9_0, sX6_init_9_1, sX6_init_9_2, sX6_init_12, sX6_init_15, sX6_init_16, sX6_init_18, sX6_init_20, sX6_init_23, sX6_init_24, sX6_init_26, sX6_init_28, sX6_init_31, sX6_init_32, sX6_init_34, sX6_init_36, sX6_init_39, sX6_init_40, sX6_init_42, sX6_init_44, sX6_init_47, sX6_init_48, sX6_init_49, sX6_init_52, sX6_init_53, sX6_init_54, sX6_init_57, sX6_init_58, sX6_init_59, sX6_init_62, sX6_init_63, sX6_init_64, sX6_init_67, sX6_init_68, sX6_init_69, sX6_init_72, sX6_init_73, sX6_init_74, sX6_init_77, sX6_init_78, sX6_init_79, sX6_init_82, sX6_init_83, sX6_init_84, sX6_init_87, sX6_init_88, sX6_init_89, sX6_init_92, sX6_init_93, sX6_init_94, sX6_init_97, if_na, tc_7, tc_21, List.append_assoc, List.cons_append, List.nil_append, List.length_append, List.length_cons, List.length_nil, fpt_end, Option.bind_some, Option.toList_none, q, cens0, true_or, or_true, if_true]
  rfl
def mod0 (L : Nat) : ab_H := [.inr (.inr (7, [.ref (L + 1), .ref (L + 2), .ref (L + 3), .int 0, .ref (L + 4), .int 0, .int 0, .int (-1), .int 0, .int 0, .int 0, .int 0, .int 0, .ref (L + 5), .ref (L + 6), .int 0, .ref (L + 7), .int 0, .int 0, .ref (L + 8), .ref (L + 9), .int 0, .int 0, .int 0, .ref (L + 10), .ref (L + 11), .ref (L + 12), .ref (L + 13), .int 0])), row0 45, row0 45, row0 450, row0 400, row0 11, row0 11, row0 7, row0 7, row0 7, row0 15, row0 12, .inl (1, List.replicate 256 0), row0 120]
end
