/-! NUMBERS: Int32 by Int -/
def qI (n : Int) : Int32 := Int32.ofInt n
theorem qI_add (a b : Int) : qI a + qI b = qI (a + b) := (Int32.ofInt_add a b).symm
theorem qI_sub (a b : Int) : qI a - qI b = qI (a - b) := (Int32.ofInt_sub a b).symm
theorem qI_mul (a b : Int) : qI a * qI b = qI (a * b) := (Int32.ofInt_mul a b).symm
theorem qI_neg (a : Int) : - qI a = qI (-a) := (Int32.ofInt_neg a).symm
theorem qI_toInt {a : Int} (h1 : -2147483648 ≤ a) (h2 : a < 2147483648) : (qI a).toInt = a := Int32.toInt_ofInt_of_le h1 h2
theorem qI_of (x : Int32) : x = qI x.toInt := (Int32.ofInt_toInt x).symm
theorem qI_lt {a b : Int} (h1 : -2147483648 ≤ a) (h2 : a < 2147483648) (h3 : -2147483648 ≤ b) (h4 : b < 2147483648) : (qI a < qI b) ↔ a < b := by
  rw [Int32.lt_iff_toInt_lt, qI_toInt h1 h2, qI_toInt h3 h4]
theorem qI_eq {a b : Int} (h1 : -2147483648 ≤ a) (h2 : a < 2147483648) (h3 : -2147483648 ≤ b) (h4 : b < 2147483648) : (qI a = qI b) ↔ a = b := by
  rw [← Int32.toInt_inj, qI_toInt h1 h2, qI_toInt h3 h4]
theorem qI_nat {a : Int} (h1 : -2147483648 ≤ a) (h2 : a < 2147483648) : (qI a).toNatClampNeg = a.toNat := by
  rw [← Int32.toNat_toInt, qI_toInt h1 h2]
theorem lg_lt (u v : Int64) : (lg_cmp u v < 0) ↔ u.toInt < v.toInt := by
  unfold lg_cmp
  by_cases h : u > v
  · rw [if_pos h]
    have : v.toInt < u.toInt := Int64.lt_iff_toInt_lt.mp h
    constructor
    · intro hh; exact absurd hh (by decide)
    · intro hh; omega
  · rw [if_neg h]
    by_cases h2 : u = v
    · rw [if_pos h2, h2]
      constructor
      · intro hh; exact absurd hh (by decide)
      · intro hh; omega
    · rw [if_neg h2]
      have h3 : ¬ v.toInt < u.toInt := fun q => h (Int64.lt_iff_toInt_lt.mpr q)
      have h4 : u.toInt ≠ v.toInt := fun q => h2 (Int64.toInt_inj.mp q)
      constructor
      · intro _; omega
      · intro _; decide
theorem lg_gt (u v : Int64) : (0 < lg_cmp u v) ↔ v.toInt < u.toInt := by
  unfold lg_cmp
  by_cases h : u > v
  · rw [if_pos h]
    have : v.toInt < u.toInt := Int64.lt_iff_toInt_lt.mp h
    constructor
    · intro _; exact this
    · intro _; decide
  · rw [if_neg h]
    have h3 : ¬ v.toInt < u.toInt := fun q => h (Int64.lt_iff_toInt_lt.mpr q)
    by_cases h2 : u = v
    · rw [if_pos h2]
      constructor
      · intro hh; exact absurd hh (by decide)
      · intro hh; exact absurd hh h3
    · rw [if_neg h2]
      constructor
      · intro hh; exact absurd hh (by decide)
      · intro hh; exact absurd hh h3
/-! THE REFERENCE'S SMALLEST -/
section
variable {rom : List (List Int32)} {hp : ab_H} {d : Nat}
theorem r_in (u v w : Int64) : ab_M rom (d + 1) 159 [.long u, .long v, .long w] hp = some (some (.int (if v.toInt ≤ u.toInt ∧ u.toInt ≤ w.toInt then 1 else 0)), hp) := by
  rw [mX9_in]
  simp only [sX9_in_0, sX9_in_1, sX9_in_2, sX9_in_3, sX9_in_6, sX9_in_7, sX9_in_9, sX9_in_10, sX9_in_13, sX9_in_14, sX9_in_17, lg_lt, lg_gt]
  by_cases h1 : u.toInt < v.toInt
  · rw [if_pos h1, if_neg (by omega), sX9_in_18 (Or.inl rfl)]
  · rw [if_neg h1]
    by_cases h2 : w.toInt < u.toInt
    · rw [if_pos h2, if_neg (by omega), sX9_in_18 (Or.inl rfl)]
    · rw [if_neg h2, if_pos (by omega), sX9_in_18 (Or.inr rfl)]
theorem r_has (s k : Int32) : ab_M rom (d + 1) 156 [.int s, .int k] hp = some (some (.int (if (s >>> (k &&& 31)) &&& 1 = 1 then 1 else 0)), hp) := by
  rw [mX9_has]
  simp only [sX9_has_0, sX9_has_1, sX9_has_2, sX9_has_3, sX9_has_4, sX9_has_5, sX9_has_6, sX9_has_9, sX9_has_10, sX9_has_13]
  split
  · rw [sX9_has_14 (Or.inr rfl)]
  · rw [sX9_has_14 (Or.inl rfl)]
theorem r_apart (x y : Int32) : ab_M rom (d + 1) 132 [.int x, .int y] hp = some (some (.int (if x < y then y - x else x - y)), hp) := by
  rw [mX9_apart]
  simp only [sX9_apart_0, sX9_apart_1, sX9_apart_2, sX9_apart_5, sX9_apart_6, sX9_apart_7, sX9_apart_8, sX9_apart_11, sX9_apart_12, sX9_apart_13, sX9_apart_14]
  split <;> rfl
theorem r_isSlot (x : Int32) : ab_M rom (d + 2) 175 [.int x] hp = some (some (.int (if 0 ≤ x.toInt ∧ x.toInt ≤ 2 then 1 else 0)), hp) := by
  rw [mX9_isSlot]
  simp only [sX9_isSlot_0, sX9_isSlot_1, sX9_isSlot_2, sX9_isSlot_3]
  rw [sX9_isSlot_6 (by decide), r_in]
  simp only [Option.bind_some, Option.toList_some, List.cons_append, List.nil_append, Int32.toInt_toInt64]
  rw [show (0 : Int64).toInt = 0 from rfl, show (2 : Int64).toInt = 2 from rfl]
  split
  · rw [sX9_isSlot_9 (Or.inr rfl)]
  · rw [sX9_isSlot_9 (Or.inl rfl)]
end
