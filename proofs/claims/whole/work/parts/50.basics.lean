/-! NUMBERS: Int32 by Int -/
def qI (n : Int) : Int32 := Int32.ofInt n
theorem qI_add (a b : Int) : qI a + qI b = qI (a + b) := (Int32.ofInt_add a b).symm
theorem qI_sub (a b : Int) : qI a - qI b = qI (a - b) := (Int32.ofInt_sub a b).symm
theorem qI_mul (a b : Int) : qI a * qI b = qI (a * b) := (Int32.ofInt_mul a b).symm
theorem qI_neg (a : Int) : - qI a = qI (-a) := (Int32.ofInt_neg a).symm
theorem qI_toInt {a : Int} (h1 : -2147483648 ≤ a) (h2 : a < 2147483648) : (qI a).toInt = a := Int32.toInt_ofInt_of_le h1 h2
theorem qI_of (x : Int32) : qI x.toInt = x := Int32.ofInt_toInt x
theorem qI_lt {a b : Int} (h1 : -2147483648 ≤ a) (h2 : a < 2147483648) (h3 : -2147483648 ≤ b) (h4 : b < 2147483648) : (qI a < qI b) ↔ a < b := by
  rw [Int32.lt_iff_toInt_lt, qI_toInt h1 h2, qI_toInt h3 h4]
theorem qI_eq {a b : Int} (h1 : -2147483648 ≤ a) (h2 : a < 2147483648) (h3 : -2147483648 ≤ b) (h4 : b < 2147483648) : (qI a = qI b) ↔ a = b := by
  rw [← Int32.toInt_inj, qI_toInt h1 h2, qI_toInt h3 h4]
theorem qI_nat {a : Int} (h1 : -2147483648 ≤ a) (h2 : a < 2147483648) : (qI a).toNatClampNeg = a.toNat := by
  rw [← Int32.toNat_toInt, qI_toInt h1 h2]
theorem lg_lt (u v : Int64) : (lg_cmp u v < 0) ↔ u.toInt < v.toInt := by
  unfold lg_cmp
  by_cases h : u > v
  · rw [if_pos h]
    have : v.toInt < u.toInt := Int64.lt_iff_toInt_lt.mp h
    constructor
    · intro hh; exact absurd hh (by decide)
    · intro hh; omega
  · rw [if_neg h]
    by_cases h2 : u = v
    · rw [if_pos h2, h2]
      constructor
      · intro hh; exact absurd hh (by decide)
      · intro hh; omega
    · rw [if_neg h2]
      have h3 : ¬ v.toInt < u.toInt := fun q => h (Int64.lt_iff_toInt_lt.mpr q)
      have h4 : u.toInt ≠ v.toInt := fun q => h2 (Int64.toInt_inj.mp q)
      constructor
      · intro _; omega
      · intro _; decide
theorem lg_gt (u v : Int64) : (0 < lg_cmp u v) ↔ v.toInt < u.toInt := by
  unfold lg_cmp
  by_cases h : u > v
  · rw [if_pos h]
    have : v.toInt < u.toInt := Int64.lt_iff_toInt_lt.mp h
    constructor
    · intro _; exact this
    · intro _; decide
  · rw [if_neg h]
    have h3 : ¬ v.toInt < u.toInt := fun q => h (Int64.lt_iff_toInt_lt.mpr q)
    by_cases h2 : u = v
    · rw [if_pos h2]
      constructor
      · intro hh; exact absurd hh (by decide)
      · intro hh; exact absurd hh h3
    · rw [if_neg h2]
      constructor
      · intro hh; exact absurd hh (by decide)
      · intro hh; exact absurd hh h3
/-- a boolean as an int -/
def qB (p : Bool) : Int32 := if p = true then 1 else 0
theorem qB_t : qB true = 1 := rfl
theorem qB_f : qB false = 0 := rfl
theorem qB_ret {α : Type} (p : Bool) (a b : α) : (if qB p = 0 ∨ qB p = 1 then a else b) = a := by cases p <;> rfl
theorem qB_if {α : Type} (p : Bool) (a b : α) : (if qB p = 0 then a else b) = if p = true then b else a := by cases p <;> rfl
/-- a row with a condition -/
theorem qB_ite {p : Prop} {hd : Decidable p} {hp : ab_H} : (if p then (some (some (Value.int 1), hp) : Option ab_O) else some (some (.int 0), hp)) = some (some (.int (qB (decide p))), hp) := by
  by_cases h : p <;> simp [h, qB]
theorem qB_ite2 {p : Prop} {hd : Decidable p} {hp : ab_H} : (if p then (some (some (Value.int 0), hp) : Option ab_O) else some (some (.int 1), hp)) = some (some (.int (qB (!decide p))), hp) := by
  by_cases h : p <;> simp [h, qB]
/-! LOOPS AND CELLS -/
def q_for {S : Type} (F : Nat → S → S) : Nat → Nat → S → S
  | _, 0, s => s
  | i, k + 1, s => q_for F (i + 1) k (F i s)
theorem q_loop {S R : Type} (P : Nat → S → Prop) (X : Nat → S → R) (F : Nat → S → S) (n : Nat) (hstep : ∀ i s, i < n → P i s → P (i + 1) (F i s) ∧ X i s = X (i + 1) (F i s)) : ∀ k i s, i + k = n → P i s → P n (q_for F i k s) ∧ X i s = X n (q_for F i k s)
  | 0, i, s, h, hP => by
    have e : i = n := by omega
    subst e
    exact ⟨hP, rfl⟩
  | k + 1, i, s, h, hP => by
    obtain ⟨h1, h2⟩ := hstep i s (by omega) hP
    obtain ⟨h3, h4⟩ := q_loop P X F n hstep k (i + 1) (F i s) (by omega) h1
    exact ⟨h3, h2.trans h4⟩
section
variable {rom : List (List Int32)} {hp : ab_H} {a ci k : Nat} {fs : List Value} {v : Value} {xs : List Int32}
theorem ab_fld_at (h : hp[a]? = some (.inr (.inr (ci, fs)))) : ab_fld hp a ci k = fs[k]? := by
  unfold ab_fld
  rw [h]
  simp
theorem ab_fpt_at (h : hp[a]? = some (.inr (.inr (ci, fs)))) (hk : k < fs.length) : ab_fpt hp a ci k v = some (hp.set a (.inr (.inr (ci, fs.set k v)))) := by
  unfold ab_fpt
  rw [h]
  simp [hk]
theorem ab_iso_at (h : hp[a]? = some (.inr (.inr (ci, fs)))) : ab_iso hp a ci = true := by
  unfold ab_iso
  rw [h]
  simp
theorem qI_ge {i : Int} (h0 : 0 ≤ i) (h1 : i < 2147483648) : ¬ qI i < 0 := by
  intro h
  have := (qI_lt (b := 0) (by omega) h1 (by omega) (by omega)).mp h
  omega
theorem ab_ard_at {t : Nat} {i : Int} (h : hp[a]? = some (.inl (t, xs))) (h0 : 0 ≤ i) (h1 : i < 2147483648) : ab_ard rom t hp a (qI i) = xs[i.toNat]? := by
  unfold ab_ard ab_arr
  rw [h]
  simp only [if_true, qI_ge h0 h1, not_false_eq_true, qI_nat (by omega) h1]
theorem ab_awr_at {t : Nat} {i : Int} {y : Int32} (h : hp[a]? = some (.inl (t, xs))) (h0 : 0 ≤ i) (h1 : i.toNat < xs.length) (h2 : i < 2147483648) : ab_awr t hp a (qI i) y = some (hp.set a (.inl (t, xs.set i.toNat y))) := by
  unfold ab_awr
  rw [h]
  simp only [qI_ge h0 h2, not_false_eq_true, qI_nat (by omega) h2, h1, and_self, if_true]
theorem ab_aln_at (h : hp[a]? = some (.inl (0, xs))) : ab_aln rom hp a = some (qI xs.length) := by
  unfold ab_aln
  rw [h]
  show some (Int32.ofNat xs.length) = some (Int32.ofInt xs.length)
  rw [Int32.ofInt_eq_ofNat]
theorem ab_set_self {hp : ab_H} {a : Nat} {q : ab_C} (h : a < hp.length) : (hp.set a q)[a]? = some q := List.getElem?_set_self h
theorem ab_set_ne {hp : ab_H} {a b : Nat} {q : ab_C} (h : a ≠ b) : (hp.set a q)[b]? = hp[b]? := List.getElem?_set_ne h
theorem ab_set_set (hp : ab_H) (a : Nat) (q r : ab_C) : (hp.set a q).set a r = hp.set a r := List.set_set ..
theorem ab_set_id {hp : ab_H} {a : Nat} {q : ab_C} (h : hp[a]? = some q) : hp.set a q = hp := by
  apply List.ext_getElem?
  intro i
  rw [List.getElem?_set]
  by_cases e : a = i
  · subst e
    rw [if_pos rfl, if_pos (ab_lt h), h]
  · rw [if_neg e]
end
theorem q_one : (1 : Int32) = qI 1 := rfl
theorem q_zero : (0 : Int32) = qI 0 := rfl
theorem q_mone : (-1 : Int32) = qI (-1) := rfl
section
variable {rom : List (List Int32)} {hp : ab_H} {a d : Nat} {xs : List Int32}
/-- Arrays.fill -/
theorem j_fill (v : Int32) (h : hp[a]? = some (.inl (0, xs))) (hl : xs.length ≤ 1000) : ab_M rom (d + 1) 266 [.ref a, .int v] hp = some (none, hp.set a (.inl (0, List.replicate xs.length v))) := by
  rw [mJ7_fill_53178]
  simp only [sJ7_fill_53178_0, sJ7_fill_53178_1i, sJ7_fill_53178_1r, sJ7_fill_53178_1n, sJ7_fill_53178_2, sJ7_fill_53178_3, sJ7_fill_53178_4i, sJ7_fill_53178_4r, sJ7_fill_53178_4n, sJ7_fill_53178_6, sJ7_fill_53178_7, sJ7_fill_53178_10, sJ7_fill_53178_11, sJ7_fill_53178_12, sJ7_fill_53178_13, sJ7_fill_53178_14i, sJ7_fill_53178_14r, sJ7_fill_53178_14n, sJ7_fill_53178_17, sJ7_fill_53178_20, ab_aln_at h, Option.bind_some]
  have hlen : a < hp.length := ab_lt h
  have key := q_loop (fun i (H : ab_H) => H = hp.set a (.inl (0, List.replicate i v ++ xs.drop i))) (fun i H => ab_X rom (ab_M rom d) cJ7_fill_53178 11 0 5 [.ref a, .int v, .int (qI i), .int (qI xs.length)] [] H) (fun i H => hp.set a (.inl (0, List.replicate (i + 1) v ++ xs.drop (i + 1)))) xs.length (fun i H hi hH => by
    refine ⟨rfl, ?_⟩
    subst hH
    rw [sJ7_fill_53178_5]
    simp only [sJ7_fill_53178_0, sJ7_fill_53178_1i, sJ7_fill_53178_1r, sJ7_fill_53178_1n, sJ7_fill_53178_2, sJ7_fill_53178_3, sJ7_fill_53178_4i, sJ7_fill_53178_4r, sJ7_fill_53178_4n, sJ7_fill_53178_6, sJ7_fill_53178_7, sJ7_fill_53178_10, sJ7_fill_53178_11, sJ7_fill_53178_12, sJ7_fill_53178_13, sJ7_fill_53178_14i, sJ7_fill_53178_14r, sJ7_fill_53178_14n, sJ7_fill_53178_17, sJ7_fill_53178_20]
    rw [if_pos ((qI_lt (by omega) (by omega) (by omega) (by omega)).mpr (by omega))]
    rw [ab_awr_at (xs := List.replicate i v ++ xs.drop i) (ab_set_self hlen) (by omega) (by simp; omega) (by omega)]
    simp only [Option.bind_some, ab_set_set, Int.toNat_natCast]
    rw [q_one, qI_add]
    have e1 : (List.replicate i v ++ xs.drop i).set i v = List.replicate (i + 1) v ++ xs.drop (i + 1) := by
      rw [List.set_append_right _ _ (by simp), List.length_replicate, Nat.sub_self, List.drop_eq_getElem_cons hi, List.set_cons_zero, List.replicate_succ', List.append_assoc]
      rfl
    rw [e1]
    rfl) xs.length 0 hp (by omega) (by simp [ab_set_id h])
  have k2 := key.2
  have k1 := key.1
  rw [q_zero]
  refine Eq.trans k2 ?_
  rw [k1]
  simp only [sJ7_fill_53178_5, sJ7_fill_53178_6, sJ7_fill_53178_7, sJ7_fill_53178_20]
  rw [if_neg (fun q => by have := (qI_lt (by omega) (by omega) (by omega) (by omega)).mp q; omega)]
  simp
end
/-! THE REFERENCE'S SMALLEST -/
section
variable {rom : List (List Int32)} {hp : ab_H} {d : Nat}
theorem r_in (u v w : Int64) : ab_M rom (d + 1) 159 [.long u, .long v, .long w] hp = some (some (.int (qB (decide (v.toInt ≤ u.toInt ∧ u.toInt ≤ w.toInt)))), hp) := by
  rw [mX9_in]
  simp only [sX9_in_0, sX9_in_1, sX9_in_2, sX9_in_3, sX9_in_6, sX9_in_7, sX9_in_9, sX9_in_10, sX9_in_13, sX9_in_14, sX9_in_17, sX9_in_18, lg_lt, lg_gt, true_or, or_true, if_true]
  rw [← qB_ite]
  by_cases h1 : u.toInt < v.toInt
  · rw [if_pos h1, if_neg (by omega)]
  · rw [if_neg h1]
    by_cases h2 : w.toInt < u.toInt
    · rw [if_pos h2, if_neg (by omega)]
    · rw [if_neg h2, if_pos (by omega)]
theorem r_has (s k : Int32) : ab_M rom (d + 1) 156 [.int s, .int k] hp = some (some (.int (qB (decide ((s >>> (k &&& 31)) &&& 1 = 1)))), hp) := by
  rw [mX9_has]
  simp only [sX9_has_0, sX9_has_1, sX9_has_2, sX9_has_3, sX9_has_4, sX9_has_5, sX9_has_6, sX9_has_9, sX9_has_10, sX9_has_13, sX9_has_14, true_or, or_true, if_true, qB_ite]
theorem r_apart (x y : Int32) : ab_M rom (d + 1) 132 [.int x, .int y] hp = some (some (.int (if x < y then y - x else x - y)), hp) := by
  rw [mX9_apart]
  simp only [sX9_apart_0, sX9_apart_1, sX9_apart_2, sX9_apart_5, sX9_apart_6, sX9_apart_7, sX9_apart_8, sX9_apart_11, sX9_apart_12, sX9_apart_13, sX9_apart_14]
  split <;> rfl
theorem r_isSlot (x : Int32) : ab_M rom (d + 2) 175 [.int x] hp = some (some (.int (qB (decide (0 ≤ x.toInt ∧ x.toInt ≤ 2)))), hp) := by
  rw [mX9_isSlot]
  simp only [sX9_isSlot_0, sX9_isSlot_1, sX9_isSlot_2, sX9_isSlot_3, sX9_isSlot_6_0, sX9_isSlot_6_1, sX9_isSlot_6_2, sX9_isSlot_6_3, sX9_isSlot_9, r_in, Option.bind_some, Option.toList_some, Option.toList_none, List.cons_append, List.nil_append, Int32.toInt_toInt64, qB_ret]
  rfl
theorem r_isKind (x : Int32) : ab_M rom (d + 2) 168 [.int x] hp = some (some (.int (qB (decide (0 ≤ x.toInt ∧ x.toInt ≤ 4)))), hp) := by
  rw [mX9_isKind]
  simp only [sX9_isKind_0, sX9_isKind_1, sX9_isKind_2, sX9_isKind_3, sX9_isKind_6_0, sX9_isKind_6_1, sX9_isKind_6_2, sX9_isKind_6_3, sX9_isKind_9, r_in, Option.bind_some, Option.toList_some, Option.toList_none, List.cons_append, List.nil_append, Int32.toInt_toInt64, qB_ret]
  rfl
/-- the reference stands at 92, its row at 93 -/
def RowAt (hp : ab_H) (row : List Int32) : Prop := (∃ fs, hp[92]? = some (.inr (.inr (7, fs))) ∧ fs[0]? = some (.ref 93)) ∧ hp[93]? = some (.inl (0, row)) ∧ row.length = 45
theorem RowAt.iso {row : List Int32} (h : RowAt hp row) : ab_iso hp 92 7 = true := by
  obtain ⟨⟨fs, h1, -⟩, -⟩ := h
  exact ab_iso_at h1
theorem RowAt.fld {row : List Int32} (h : RowAt hp row) : ab_fld hp 92 7 0 = some (.ref 93) := by
  obtain ⟨⟨fs, h1, h2⟩, -⟩ := h
  rw [ab_fld_at h1, h2]
theorem RowAt.rd {row : List Int32} {i : Int} (h : RowAt hp row) (h0 : 0 ≤ i) (h1 : i < 45) : ab_ard rom 0 hp 93 (qI i) = some (row.getD i.toNat 0) := by
  obtain ⟨-, h2, h3⟩ := h
  rw [ab_ard_at h2 h0 (by omega), List.getD_eq_getElem?_getD, List.getElem?_eq_getElem (by omega)]
  rfl
theorem r_points {row : List Int32} {s : Int} (h : RowAt hp row) (h0 : 0 ≤ s) (h1 : s ≤ 2) : ab_M rom (d + 1) 209 [.ref 92, .int (qI s)] hp = some (some (.int (row.getD (15 * s).toNat 0)), hp) := by
  rw [mX9_points]
  simp only [sX9_points_0, sX9_points_1, sX9_points_4, sX9_points_6, sX9_points_7, sX9_points_8, sX9_points_9, h.fld, Option.bind_some]
  rw [show (15 : Int32) = qI 15 from rfl, qI_mul, h.rd (by omega) (by omega)]
  rfl
theorem r_joined {row : List Int32} {s p : Int} (h : RowAt hp row) (h0 : 0 ≤ s) (h1 : s ≤ 2) (h2 : 0 ≤ p) (h3 : p ≤ 6) : ab_M rom (d + 1) 179 [.ref 92, .int (qI s), .int (qI p)] hp = some (some (.int (row.getD (15 * s + 1 + p).toNat 0)), hp) := by
  rw [mX9_joined]
  simp only [sX9_joined_0, sX9_joined_1, sX9_joined_4, sX9_joined_6, sX9_joined_7, sX9_joined_8, sX9_joined_9, sX9_joined_10, sX9_joined_11, sX9_joined_12, sX9_joined_13, h.fld, Option.bind_some]
  rw [show (15 : Int32) = qI 15 from rfl, q_one, qI_mul, qI_add, qI_add, h.rd (by omega) (by omega)]
  rfl
theorem r_labelOf {row : List Int32} {s p : Int} (h : RowAt hp row) (h0 : 0 ≤ s) (h1 : s ≤ 2) (h2 : 0 ≤ p) (h3 : p ≤ 6) : ab_M rom (d + 1) 183 [.ref 92, .int (qI s), .int (qI p)] hp = some (some (.int (row.getD (15 * s + 8 + p).toNat 0)), hp) := by
  rw [mX9_labelOf]
  simp only [sX9_labelOf_0, sX9_labelOf_1, sX9_labelOf_4, sX9_labelOf_6, sX9_labelOf_7, sX9_labelOf_8, sX9_labelOf_10, sX9_labelOf_11, sX9_labelOf_12, sX9_labelOf_13, sX9_labelOf_14, h.fld, Option.bind_some]
  rw [show (15 : Int32) = qI 15 from rfl, show (8 : Int32) = qI 8 from rfl, qI_mul, qI_add, qI_add, h.rd (by omega) (by omega)]
  rfl
theorem r_isNet {row : List Int32} (x : Int32) (h : RowAt hp row) : ab_M rom (d + 3) 171 [.ref 92, .int x] hp = some (some (.int (qB (decide (0 ≤ x.toInt ∧ x.toInt ≤ 2) && decide (0 < row.getD (15 * x.toInt).toNat 0)))), hp) := by
  rw [mX9_isNet]
  simp only [sX9_isNet_0, sX9_isNet_1_0, sX9_isNet_1_1, sX9_isNet_1_2, sX9_isNet_1_3, sX9_isNet_4, sX9_isNet_7, sX9_isNet_8, sX9_isNet_9_0, sX9_isNet_9_1, sX9_isNet_9_2, sX9_isNet_9_3, sX9_isNet_12, sX9_isNet_15, sX9_isNet_16, sX9_isNet_19, sX9_isNet_20, r_isSlot, Option.bind_some, Option.toList_some, Option.toList_none, List.cons_append, List.nil_append, qB_if, h.iso, if_true, true_or, or_true, if_true]
  by_cases h1 : 0 ≤ x.toInt ∧ x.toInt ≤ 2
  · have hp1 := r_points (rom := rom) (d := d + 1) h h1.1 h1.2
    rw [qI_of] at hp1
    simp only [h1, and_self, decide_true, if_true, hp1, Option.bind_some, Option.toList_some, Option.toList_none, List.cons_append, List.nil_append, sX9_isNet_0, sX9_isNet_1_0, sX9_isNet_1_1, sX9_isNet_1_2, sX9_isNet_1_3, sX9_isNet_4, sX9_isNet_7, sX9_isNet_8, sX9_isNet_9_0, sX9_isNet_9_1, sX9_isNet_9_2, sX9_isNet_9_3, sX9_isNet_12, sX9_isNet_15, sX9_isNet_16, sX9_isNet_19, sX9_isNet_20, true_or, or_true, if_true, qB_ite, Bool.true_and]
  · simp [h1, qB]
theorem r_isPoint {row : List Int32} (x y : Int32) (h : RowAt hp row) (hn : ∀ s : Int, 0 ≤ s → s ≤ 2 → ∃ n : Int, row.getD (15 * s).toNat 0 = qI n ∧ 0 ≤ n ∧ n ≤ 7) : ab_M rom (d + 4) 173 [.ref 92, .int x, .int y] hp = some (some (.int (qB (decide (0 ≤ x.toInt ∧ x.toInt ≤ 2) && decide (0 ≤ y.toInt ∧ y.toInt < (row.getD (15 * x.toInt).toNat 0).toInt)))), hp) := by
  rw [mX9_isPoint]
  simp only [sX9_isPoint_0, sX9_isPoint_1, sX9_isPoint_2_0, sX9_isPoint_2_1, sX9_isPoint_2_2, sX9_isPoint_2_3, sX9_isPoint_5, sX9_isPoint_8, sX9_isPoint_9, sX9_isPoint_10, sX9_isPoint_11, sX9_isPoint_12, sX9_isPoint_13_0, sX9_isPoint_13_1, sX9_isPoint_13_2, sX9_isPoint_13_3, sX9_isPoint_16, sX9_isPoint_17, sX9_isPoint_18, sX9_isPoint_19_0, sX9_isPoint_19_1, sX9_isPoint_19_2, sX9_isPoint_19_3, sX9_isPoint_22, sX9_isPoint_25, sX9_isPoint_26, sX9_isPoint_29, sX9_isPoint_30, r_isNet _ h, Option.bind_some, Option.toList_some, Option.toList_none, List.cons_append, List.nil_append, qB_if, h.iso, if_true, true_or, or_true, if_true]
  by_cases h1 : 0 ≤ x.toInt ∧ x.toInt ≤ 2
  · have hp1 := r_points (rom := rom) (d := d + 2) h h1.1 h1.2
    rw [qI_of] at hp1
    obtain ⟨n, e1, e2, e3⟩ := hn _ h1.1 h1.2
    rw [e1] at hp1 ⊢
    simp only [h1, and_self, decide_true, if_true, hp1, Option.bind_some, Option.toList_some, Option.toList_none, List.cons_append, List.nil_append, sX9_isPoint_0, sX9_isPoint_1, sX9_isPoint_2_0, sX9_isPoint_2_1, sX9_isPoint_2_2, sX9_isPoint_2_3, sX9_isPoint_5, sX9_isPoint_8, sX9_isPoint_9, sX9_isPoint_10, sX9_isPoint_11, sX9_isPoint_12, sX9_isPoint_13_0, sX9_isPoint_13_1, sX9_isPoint_13_2, sX9_isPoint_13_3, sX9_isPoint_16, sX9_isPoint_17, sX9_isPoint_18, sX9_isPoint_19_0, sX9_isPoint_19_1, sX9_isPoint_19_2, sX9_isPoint_19_3, sX9_isPoint_22, sX9_isPoint_25, sX9_isPoint_26, sX9_isPoint_29, sX9_isPoint_30, true_or, or_true, if_true, Bool.true_and, r_in, qB_if, Int32.toInt_toInt64]
    rw [q_one, qI_sub, qI_toInt (by omega) (by omega), qI_toInt (by omega) (by omega), q_zero]
    by_cases h2 : 0 < n
    · have h3 : qI 0 < qI n := (qI_lt (by omega) (by omega) (by omega) (by omega)).mpr h2
      simp only [h3, decide_true, if_true]
      rw [show (0 : Int64).toInt = 0 from rfl]
      by_cases h4 : 0 ≤ y.toInt ∧ y.toInt < n
      · rw [if_pos (by simp; omega)]
        simp [h4, qB]
        rfl
      · rw [if_neg (by simp; omega)]
        simp [h4, qB]
        rfl
    · have h3 : ¬ qI 0 < qI n := fun q => h2 ((qI_lt (by omega) (by omega) (by omega) (by omega)).mp q)
      have h4 : ¬ (0 ≤ y.toInt ∧ y.toInt < n) := by omega
      simp [h3, h4, qB]
      rfl
  · simp [h1, qB]
end
