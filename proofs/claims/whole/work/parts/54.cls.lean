/-! THE CLASS'S OBJECT at place 0, its slots at 5 -/
theorem q_nat {x : Int32} (h : 0 ≤ x.toInt) : x = nI x.toInt.toNat := by
  have e : ((x.toInt.toNat : Nat) : Int) = x.toInt := Int.toNat_of_nonneg h
  rw [← qI_nI, e, qI_of]
theorem q_lt0 (x : Int32) : (x < 0) ↔ x.toInt < 0 := by rw [Int32.lt_iff_toInt_lt]; rfl
theorem q_lt3 (x : Int32) : (x < 3) ↔ x.toInt < 3 := by rw [Int32.lt_iff_toInt_lt]; rfl
theorem q_lt5 (x : Int32) : (x < 5) ↔ x.toInt < 5 := by rw [Int32.lt_iff_toInt_lt]; rfl
theorem ab_rrd_n {hp : ab_H} {a i v : Nat} {rs : List (Option Nat)} (h : hp[a]? = some (.inr (.inl rs))) (hv : rs[i]? = some (some v)) (hi : i < 1000) : ab_rrd hp a (nI i) = some v := by
  unfold ab_rrd
  rw [h]
  simp only [nI_pos (show i < 2 ^ 31 by omega), not_false_eq_true, if_true, nI_clamp (show i < 2 ^ 31 by omega), hv]
def ClsAt (hp : ab_H) (fn fp : Int32) : Prop := hp[0]? = some (.inr (.inr (6, [.ref 1, .ref 26, .ref 3, .ref 5, .ref 21, .ref 27, .ref 80, .ref 90, .ref 91, .int fn, .int fp]))) ∧ hp[5]? = some (.inr (.inl [some 6, some 11, some 16]))
/-- the slots' nets: how many points each has -/
def SlotsAt (hp : ab_H) (pn : Nat → Nat) : Prop := ∀ s, s < 3 → pn s ≤ 7 ∧ ∃ m lo hi lab bes, NetAt hp (6 + 5 * s) (pn s) m lo hi lab bes
section
variable {rom : List (List Int32)} {hp : ab_H} {d : Nat} {fn fp : Int32} {pn : Nat → Nat}
theorem ClsAt.iso (h : ClsAt hp fn fp) : ab_iso hp 0 6 = true := ab_iso_at h.1
theorem ClsAt.f0 (h : ClsAt hp fn fp) : ab_fld hp 0 6 0 = some (.ref 1) := by rw [ab_fld_at h.1]; rfl
theorem ClsAt.f1 (h : ClsAt hp fn fp) : ab_fld hp 0 6 1 = some (.ref 26) := by rw [ab_fld_at h.1]; rfl
theorem ClsAt.f2 (h : ClsAt hp fn fp) : ab_fld hp 0 6 2 = some (.ref 3) := by rw [ab_fld_at h.1]; rfl
theorem ClsAt.f3 (h : ClsAt hp fn fp) : ab_fld hp 0 6 3 = some (.ref 5) := by rw [ab_fld_at h.1]; rfl
theorem ClsAt.f4 (h : ClsAt hp fn fp) : ab_fld hp 0 6 4 = some (.ref 21) := by rw [ab_fld_at h.1]; rfl
theorem ClsAt.f5 (h : ClsAt hp fn fp) : ab_fld hp 0 6 5 = some (.ref 27) := by rw [ab_fld_at h.1]; rfl
theorem ClsAt.f6 (h : ClsAt hp fn fp) : ab_fld hp 0 6 6 = some (.ref 80) := by rw [ab_fld_at h.1]; rfl
theorem ClsAt.f7 (h : ClsAt hp fn fp) : ab_fld hp 0 6 7 = some (.ref 90) := by rw [ab_fld_at h.1]; rfl
theorem ClsAt.f8 (h : ClsAt hp fn fp) : ab_fld hp 0 6 8 = some (.ref 91) := by rw [ab_fld_at h.1]; rfl
theorem ClsAt.f9 (h : ClsAt hp fn fp) : ab_fld hp 0 6 9 = some (.int fn) := by rw [ab_fld_at h.1]; rfl
theorem ClsAt.f10 (h : ClsAt hp fn fp) : ab_fld hp 0 6 10 = some (.int fp) := by rw [ab_fld_at h.1]; rfl
theorem ClsAt.slot (h : ClsAt hp fn fp) {s : Nat} (hs : s < 3) : ab_rrd hp 5 (nI s) = some (6 + 5 * s) := by
  match s, hs with
  | 0, _ => exact ab_rrd_n h.2 rfl (by omega)
  | 1, _ => exact ab_rrd_n h.2 rfl (by omega)
  | 2, _ => exact ab_rrd_n h.2 rfl (by omega)
theorem SlotsAt.pts (h : SlotsAt hp pn) {s : Nat} (hs : s < 3) : ab_fld hp (6 + 5 * s) 1 0 = some (.int (nI (pn s))) := by
  obtain ⟨-, m, lo, hi, lab, bes, h1⟩ := h s hs
  exact h1.f0
theorem c_isSlot (x : Int32) : ab_M rom (d + 1) 101 [.int x] hp = some (some (.int (qB (decide (0 ≤ x.toInt ∧ x.toInt ≤ 2)))), hp) := by
  rw [mX8_isSlot]
  simp only [sX8_isSlot_0, sX8_isSlot_1, sX8_isSlot_4, sX8_isSlot_5, sX8_isSlot_6, sX8_isSlot_9, sX8_isSlot_10, sX8_isSlot_13, sX8_isSlot_14, q_lt0, q_lt3, true_or, or_true, if_true]
  rw [← qB_ite]
  by_cases h1 : x.toInt < 0
  · rw [if_pos h1, if_neg (by omega)]
  · rw [if_neg h1]
    by_cases h2 : x.toInt < 3
    · rw [if_pos h2, if_pos (by omega)]
    · rw [if_neg h2, if_neg (by omega)]
theorem c_isKind (x : Int32) : ab_M rom (d + 1) 100 [.int x] hp = some (some (.int (qB (decide (0 ≤ x.toInt ∧ x.toInt ≤ 4)))), hp) := by
  rw [mX8_isKind]
  simp only [sX8_isKind_0, sX8_isKind_1, sX8_isKind_4, sX8_isKind_5, sX8_isKind_6, sX8_isKind_9, sX8_isKind_10, sX8_isKind_13, sX8_isKind_14, q_lt0, q_lt5, true_or, or_true, if_true]
  rw [← qB_ite]
  by_cases h1 : x.toInt < 0
  · rw [if_pos h1, if_neg (by omega)]
  · rw [if_neg h1]
    by_cases h2 : x.toInt < 5
    · rw [if_pos h2, if_pos (by omega)]
    · rw [if_neg h2, if_neg (by omega)]
theorem c_hasNet (h : ClsAt hp fn fp) (hS : SlotsAt hp pn) (x : Int32) : ab_M rom (d + 2) 95 [.ref 0, .int x] hp = some (some (.int (qB (decide (0 ≤ x.toInt ∧ x.toInt ≤ 2) && decide (0 < pn x.toInt.toNat)))), hp) := by
  rw [mX8_hasNet]
  simp only [sX8_hasNet_0, sX8_hasNet_1_0, sX8_hasNet_1_1, sX8_hasNet_1_2, sX8_hasNet_1_3, sX8_hasNet_4, sX8_hasNet_7, sX8_hasNet_8, sX8_hasNet_11, sX8_hasNet_12, sX8_hasNet_13, sX8_hasNet_16, sX8_hasNet_19, sX8_hasNet_20, sX8_hasNet_23, sX8_hasNet_24, c_isSlot, Option.bind_some, Option.toList_some, Option.toList_none, List.cons_append, List.nil_append, qB_if, h.f3]
  by_cases h1 : 0 ≤ x.toInt ∧ x.toInt ≤ 2
  · have hs : x.toInt.toNat < 3 := by omega
    have e9 : ab_rrd hp 5 x = some (6 + 5 * x.toInt.toNat) := by
      have := h.slot hs
      rwa [← q_nat h1.1] at this
    have hle := (hS _ hs).1
    simp only [h1, and_self, decide_true, if_true, e9, Option.bind_some, Option.toList_some, Option.toList_none, List.cons_append, List.nil_append, hS.pts hs, sX8_hasNet_0, sX8_hasNet_1_0, sX8_hasNet_1_1, sX8_hasNet_1_2, sX8_hasNet_1_3, sX8_hasNet_4, sX8_hasNet_7, sX8_hasNet_8, sX8_hasNet_11, sX8_hasNet_12, sX8_hasNet_13, sX8_hasNet_16, sX8_hasNet_19, sX8_hasNet_20, sX8_hasNet_23, sX8_hasNet_24, true_or, or_true, if_true, Bool.true_and]
    rw [← qB_ite]
    by_cases h2 : 0 < pn x.toInt.toNat
    · rw [if_pos (show 0 < nI (pn x.toInt.toNat) from nI_lt h2 (by omega)), if_pos h2]
    · rw [if_neg (show ¬ 0 < nI (pn x.toInt.toNat) from nI_nlt (a := 0) (by omega) (by omega)), if_neg h2]
  · simp [h1, qB]
theorem c_hasPoint (h : ClsAt hp fn fp) (hS : SlotsAt hp pn) (x y : Int32) : ab_M rom (d + 3) 96 [.ref 0, .int x, .int y] hp = some (some (.int (qB (decide (0 ≤ x.toInt ∧ x.toInt ≤ 2) && decide (0 ≤ y.toInt ∧ y.toInt < pn x.toInt.toNat)))), hp) := by
  rw [mX8_hasPoint]
  simp only [sX8_hasPoint_0, sX8_hasPoint_1, sX8_hasPoint_2_0, sX8_hasPoint_2_1, sX8_hasPoint_2_2, sX8_hasPoint_2_3, sX8_hasPoint_5, sX8_hasPoint_8, sX8_hasPoint_9, sX8_hasPoint_12, sX8_hasPoint_13, sX8_hasPoint_14, sX8_hasPoint_17, sX8_hasPoint_18, sX8_hasPoint_19, sX8_hasPoint_22, sX8_hasPoint_25, sX8_hasPoint_26, sX8_hasPoint_29, sX8_hasPoint_30, h.iso, if_true, c_hasNet h hS, Option.bind_some, Option.toList_some, Option.toList_none, List.cons_append, List.nil_append, qB_if, h.f3, q_lt0]
  by_cases h1 : 0 ≤ x.toInt ∧ x.toInt ≤ 2
  · have hs : x.toInt.toNat < 3 := by omega
    have e9 : ab_rrd hp 5 x = some (6 + 5 * x.toInt.toNat) := by
      have := h.slot hs
      rwa [← q_nat h1.1] at this
    have hle := (hS _ hs).1
    simp only [h1, and_self, decide_true, e9, Option.bind_some, Option.toList_some, Option.toList_none, List.cons_append, List.nil_append, hS.pts hs, sX8_hasPoint_0, sX8_hasPoint_1, sX8_hasPoint_2_0, sX8_hasPoint_2_1, sX8_hasPoint_2_2, sX8_hasPoint_2_3, sX8_hasPoint_5, sX8_hasPoint_8, sX8_hasPoint_9, sX8_hasPoint_12, sX8_hasPoint_13, sX8_hasPoint_14, sX8_hasPoint_17, sX8_hasPoint_18, sX8_hasPoint_19, sX8_hasPoint_22, sX8_hasPoint_25, sX8_hasPoint_26, sX8_hasPoint_29, sX8_hasPoint_30, true_or, or_true, if_true, Bool.true_and, decide_eq_true_eq]
    rw [← qB_ite]
    have hc : (y < nI (pn x.toInt.toNat)) ↔ y.toInt < pn x.toInt.toNat := by rw [Int32.lt_iff_toInt_lt, nI_toInt (by omega)]
    by_cases h2 : 0 < pn x.toInt.toNat
    · rw [if_pos h2]
      by_cases h3 : y.toInt < 0
      · rw [if_pos h3, if_neg (by omega)]
      · rw [if_neg h3]
        by_cases h4 : y.toInt < pn x.toInt.toNat
        · rw [if_pos (hc.mpr h4), if_pos (by omega)]
        · rw [if_neg (fun q => h4 (hc.mp q)), if_neg (by omega)]
    · rw [if_neg h2, if_neg (by omega)]
  · simp [h1, qB]
theorem c_hasTwoPoints (h : ClsAt hp fn fp) (hS : SlotsAt hp pn) (x y z : Int32) : ab_M rom (d + 4) 97 [.ref 0, .int x, .int y, .int z] hp = some (some (.int (qB (decide (0 ≤ x.toInt ∧ x.toInt ≤ 2) && decide (0 ≤ y.toInt ∧ y.toInt < pn x.toInt.toNat) && decide (0 ≤ z.toInt ∧ z.toInt < pn x.toInt.toNat) && decide (y ≠ z)))), hp) := by
  rw [mX8_hasTwoPoints]
  simp only [sX8_hasTwoPoints_0, sX8_hasTwoPoints_1, sX8_hasTwoPoints_2, sX8_hasTwoPoints_3_0, sX8_hasTwoPoints_3_1, sX8_hasTwoPoints_3_2, sX8_hasTwoPoints_3_3, sX8_hasTwoPoints_6, sX8_hasTwoPoints_9, sX8_hasTwoPoints_10, sX8_hasTwoPoints_11, sX8_hasTwoPoints_12_0, sX8_hasTwoPoints_12_1, sX8_hasTwoPoints_12_2, sX8_hasTwoPoints_12_3, sX8_hasTwoPoints_15, sX8_hasTwoPoints_18, sX8_hasTwoPoints_19, sX8_hasTwoPoints_20, sX8_hasTwoPoints_23, sX8_hasTwoPoints_24, sX8_hasTwoPoints_27, sX8_hasTwoPoints_28, h.iso, if_true, c_hasPoint h hS, Option.bind_some, Option.toList_some, Option.toList_none, List.cons_append, List.nil_append, qB_if, true_or, or_true, if_true]
  generalize decide (0 ≤ x.toInt ∧ x.toInt ≤ 2) = b1
  generalize decide (0 ≤ y.toInt ∧ y.toInt < (pn x.toInt.toNat : Int)) = b2
  generalize decide (0 ≤ z.toInt ∧ z.toInt < (pn x.toInt.toNat : Int)) = b3
  by_cases h4 : y = z
  · cases b1 <;> cases b2 <;> cases b3 <;> simp [h4, qB]
  · cases b1 <;> cases b2 <;> cases b3 <;> simp [h4, qB]
theorem c_fault (h : ClsAt hp fn fp) (x : Int32) : ab_M rom (d + 1) 91 [.ref 0, .int x] hp = some (some (.int (if x = 0 then fn else if x = 1 then fp else -1)), hp) := by
  rw [mX8_fault]
  simp only [sX8_fault_0, sX8_fault_1, sX8_fault_4, sX8_fault_5, sX8_fault_8, sX8_fault_9, sX8_fault_10, sX8_fault_11, sX8_fault_14, sX8_fault_15, sX8_fault_18, sX8_fault_21, sX8_fault_22, h.f9, h.f10, Option.bind_some, Option.toList_some, Option.toList_none, List.cons_append, List.nil_append]
  by_cases h1 : x = 0
  · rw [if_pos h1, if_pos h1]
  · rw [if_neg h1, if_neg h1]
    by_cases h2 : x = 1
    · rw [if_pos h2, if_pos h2]
    · rw [if_neg h2, if_neg h2]
end
