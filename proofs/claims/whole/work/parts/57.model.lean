/-! THE REFERENCE'S OBJECT at place 92; its ints by their field numbers -/
def q_mf (sc : Nat → Int32) : List Value := [.ref 93, .ref 94, .ref 95, .int (sc 3), .ref 96, .int (sc 5), .int (sc 6), .int (sc 7), .int (sc 8), .int (sc 9), .int (sc 10), .int (sc 11), .int (sc 12), .ref 97, .ref 98, .int (sc 15), .ref 99, .int (sc 17), .int (sc 18), .ref 100, .ref 101, .int (sc 21), .int (sc 22), .int (sc 23), .ref 102, .ref 103, .ref 104, .ref 105, .int (sc 28)]
def q_up (sc : Nat → Int32) (k : Nat) (v : Int32) : Nat → Int32 := fun i => if i = k then v else sc i
def MAt (hp : ab_H) (sc : Nat → Int32) : Prop := hp[92]? = some (.inr (.inr (7, q_mf sc)))
section
variable {rom : List (List Int32)} {hp : ab_H} {d : Nat} {sc : Nat → Int32}
theorem MAt.iso (h : MAt hp sc) : ab_iso hp 92 7 = true := ab_iso_at h
theorem MAt.f0 (h : MAt hp sc) : ab_fld hp 92 7 0 = some (.ref 93) := by rw [ab_fld_at h]; rfl
theorem MAt.f1 (h : MAt hp sc) : ab_fld hp 92 7 1 = some (.ref 94) := by rw [ab_fld_at h]; rfl
theorem MAt.f2 (h : MAt hp sc) : ab_fld hp 92 7 2 = some (.ref 95) := by rw [ab_fld_at h]; rfl
theorem MAt.f3 (h : MAt hp sc) : ab_fld hp 92 7 3 = some (.int (sc 3)) := by rw [ab_fld_at h]; rfl
theorem MAt.p3 (h : MAt hp sc) (v : Int32) : ab_fpt hp 92 7 3 (.int v) = some (hp.set 92 (.inr (.inr (7, q_mf (q_up sc 3 v))))) := by rw [ab_fpt_at h (Nat.le_of_ble_eq_true rfl)]; rfl
theorem MAt.f4 (h : MAt hp sc) : ab_fld hp 92 7 4 = some (.ref 96) := by rw [ab_fld_at h]; rfl
theorem MAt.f5 (h : MAt hp sc) : ab_fld hp 92 7 5 = some (.int (sc 5)) := by rw [ab_fld_at h]; rfl
theorem MAt.p5 (h : MAt hp sc) (v : Int32) : ab_fpt hp 92 7 5 (.int v) = some (hp.set 92 (.inr (.inr (7, q_mf (q_up sc 5 v))))) := by rw [ab_fpt_at h (Nat.le_of_ble_eq_true rfl)]; rfl
theorem MAt.f6 (h : MAt hp sc) : ab_fld hp 92 7 6 = some (.int (sc 6)) := by rw [ab_fld_at h]; rfl
theorem MAt.p6 (h : MAt hp sc) (v : Int32) : ab_fpt hp 92 7 6 (.int v) = some (hp.set 92 (.inr (.inr (7, q_mf (q_up sc 6 v))))) := by rw [ab_fpt_at h (Nat.le_of_ble_eq_true rfl)]; rfl
theorem MAt.f7 (h : MAt hp sc) : ab_fld hp 92 7 7 = some (.int (sc 7)) := by rw [ab_fld_at h]; rfl
theorem MAt.p7 (h : MAt hp sc) (v : Int32) : ab_fpt hp 92 7 7 (.int v) = some (hp.set 92 (.inr (.inr (7, q_mf (q_up sc 7 v))))) := by rw [ab_fpt_at h (Nat.le_of_ble_eq_true rfl)]; rfl
theorem MAt.f8 (h : MAt hp sc) : ab_fld hp 92 7 8 = some (.int (sc 8)) := by rw [ab_fld_at h]; rfl
theorem MAt.p8 (h : MAt hp sc) (v : Int32) : ab_fpt hp 92 7 8 (.int v) = some (hp.set 92 (.inr (.inr (7, q_mf (q_up sc 8 v))))) := by rw [ab_fpt_at h (Nat.le_of_ble_eq_true rfl)]; rfl
theorem MAt.f9 (h : MAt hp sc) : ab_fld hp 92 7 9 = some (.int (sc 9)) := by rw [ab_fld_at h]; rfl
theorem MAt.p9 (h : MAt hp sc) (v : Int32) : ab_fpt hp 92 7 9 (.int v) = some (hp.set 92 (.inr (.inr (7, q_mf (q_up sc 9 v))))) := by rw [ab_fpt_at h (Nat.le_of_ble_eq_true rfl)]; rfl
theorem MAt.f10 (h : MAt hp sc) : ab_fld hp 92 7 10 = some (.int (sc 10)) := by rw [ab_fld_at h]; rfl
theorem MAt.p10 (h : MAt hp sc) (v : Int32) : ab_fpt hp 92 7 10 (.int v) = some (hp.set 92 (.inr (.inr (7, q_mf (q_up sc 10 v))))) := by rw [ab_fpt_at h (Nat.le_of_ble_eq_true rfl)]; rfl
theorem MAt.f11 (h : MAt hp sc) : ab_fld hp 92 7 11 = some (.int (sc 11)) := by rw [ab_fld_at h]; rfl
theorem MAt.p11 (h : MAt hp sc) (v : Int32) : ab_fpt hp 92 7 11 (.int v) = some (hp.set 92 (.inr (.inr (7, q_mf (q_up sc 11 v))))) := by rw [ab_fpt_at h (Nat.le_of_ble_eq_true rfl)]; rfl
theorem MAt.f12 (h : MAt hp sc) : ab_fld hp 92 7 12 = some (.int (sc 12)) := by rw [ab_fld_at h]; rfl
theorem MAt.p12 (h : MAt hp sc) (v : Int32) : ab_fpt hp 92 7 12 (.int v) = some (hp.set 92 (.inr (.inr (7, q_mf (q_up sc 12 v))))) := by rw [ab_fpt_at h (Nat.le_of_ble_eq_true rfl)]; rfl
theorem MAt.f13 (h : MAt hp sc) : ab_fld hp 92 7 13 = some (.ref 97) := by rw [ab_fld_at h]; rfl
theorem MAt.f14 (h : MAt hp sc) : ab_fld hp 92 7 14 = some (.ref 98) := by rw [ab_fld_at h]; rfl
theorem MAt.f15 (h : MAt hp sc) : ab_fld hp 92 7 15 = some (.int (sc 15)) := by rw [ab_fld_at h]; rfl
theorem MAt.p15 (h : MAt hp sc) (v : Int32) : ab_fpt hp 92 7 15 (.int v) = some (hp.set 92 (.inr (.inr (7, q_mf (q_up sc 15 v))))) := by rw [ab_fpt_at h (Nat.le_of_ble_eq_true rfl)]; rfl
theorem MAt.f16 (h : MAt hp sc) : ab_fld hp 92 7 16 = some (.ref 99) := by rw [ab_fld_at h]; rfl
theorem MAt.f17 (h : MAt hp sc) : ab_fld hp 92 7 17 = some (.int (sc 17)) := by rw [ab_fld_at h]; rfl
theorem MAt.p17 (h : MAt hp sc) (v : Int32) : ab_fpt hp 92 7 17 (.int v) = some (hp.set 92 (.inr (.inr (7, q_mf (q_up sc 17 v))))) := by rw [ab_fpt_at h (Nat.le_of_ble_eq_true rfl)]; rfl
theorem MAt.f18 (h : MAt hp sc) : ab_fld hp 92 7 18 = some (.int (sc 18)) := by rw [ab_fld_at h]; rfl
theorem MAt.p18 (h : MAt hp sc) (v : Int32) : ab_fpt hp 92 7 18 (.int v) = some (hp.set 92 (.inr (.inr (7, q_mf (q_up sc 18 v))))) := by rw [ab_fpt_at h (Nat.le_of_ble_eq_true rfl)]; rfl
theorem MAt.f19 (h : MAt hp sc) : ab_fld hp 92 7 19 = some (.ref 100) := by rw [ab_fld_at h]; rfl
theorem MAt.f20 (h : MAt hp sc) : ab_fld hp 92 7 20 = some (.ref 101) := by rw [ab_fld_at h]; rfl
theorem MAt.f21 (h : MAt hp sc) : ab_fld hp 92 7 21 = some (.int (sc 21)) := by rw [ab_fld_at h]; rfl
theorem MAt.p21 (h : MAt hp sc) (v : Int32) : ab_fpt hp 92 7 21 (.int v) = some (hp.set 92 (.inr (.inr (7, q_mf (q_up sc 21 v))))) := by rw [ab_fpt_at h (Nat.le_of_ble_eq_true rfl)]; rfl
theorem MAt.f22 (h : MAt hp sc) : ab_fld hp 92 7 22 = some (.int (sc 22)) := by rw [ab_fld_at h]; rfl
theorem MAt.p22 (h : MAt hp sc) (v : Int32) : ab_fpt hp 92 7 22 (.int v) = some (hp.set 92 (.inr (.inr (7, q_mf (q_up sc 22 v))))) := by rw [ab_fpt_at h (Nat.le_of_ble_eq_true rfl)]; rfl
theorem MAt.f23 (h : MAt hp sc) : ab_fld hp 92 7 23 = some (.int (sc 23)) := by rw [ab_fld_at h]; rfl
theorem MAt.p23 (h : MAt hp sc) (v : Int32) : ab_fpt hp 92 7 23 (.int v) = some (hp.set 92 (.inr (.inr (7, q_mf (q_up sc 23 v))))) := by rw [ab_fpt_at h (Nat.le_of_ble_eq_true rfl)]; rfl
theorem MAt.f24 (h : MAt hp sc) : ab_fld hp 92 7 24 = some (.ref 102) := by rw [ab_fld_at h]; rfl
theorem MAt.f25 (h : MAt hp sc) : ab_fld hp 92 7 25 = some (.ref 103) := by rw [ab_fld_at h]; rfl
theorem MAt.f26 (h : MAt hp sc) : ab_fld hp 92 7 26 = some (.ref 104) := by rw [ab_fld_at h]; rfl
theorem MAt.f27 (h : MAt hp sc) : ab_fld hp 92 7 27 = some (.ref 105) := by rw [ab_fld_at h]; rfl
theorem MAt.f28 (h : MAt hp sc) : ab_fld hp 92 7 28 = some (.int (sc 28)) := by rw [ab_fld_at h]; rfl
theorem MAt.p28 (h : MAt hp sc) (v : Int32) : ab_fpt hp 92 7 28 (.int v) = some (hp.set 92 (.inr (.inr (7, q_mf (q_up sc 28 v))))) := by rw [ab_fpt_at h (Nat.le_of_ble_eq_true rfl)]; rfl
theorem MAt.row (h : MAt hp sc) {row : List Int32} (hr : hp[93]? = some (.inl (0, row))) (hl : row.length = 45) : RowAt hp row := ⟨⟨_, h, rfl⟩, hr, hl⟩
theorem MAt.set (h : MAt hp sc) (sc2 : Nat → Int32) : MAt (hp.set 92 (.inr (.inr (7, q_mf sc2)))) sc2 := ab_set_self (ab_lt h)
theorem r_fault (h : MAt hp sc) (x : Int32) : ab_M rom (d + 1) 151 [.ref 92, .int x] hp = some (some (.int (if x = 0 then sc 6 else if x = 1 then sc 7 else -1)), hp) := by
  rw [mX9_fault]
  simp only [sX9_fault_0, sX9_fault_1, sX9_fault_4, sX9_fault_5, sX9_fault_8, sX9_fault_11, sX9_fault_12, sX9_fault_13, sX9_fault_16, sX9_fault_17, sX9_fault_20, sX9_fault_23, sX9_fault_24, h.f6, h.f7, Option.bind_some, Option.toList_some, Option.toList_none, List.cons_append, List.nil_append]
  by_cases h1 : x = 0
  · rw [if_pos h1, if_pos h1]
  · rw [if_neg h1, if_neg h1]
    by_cases h2 : x = 1
    · rw [if_pos h2, if_pos h2]
    · rw [if_neg h2, if_neg h2]
/-- the reference's end: n of taped t -/
theorem r_end (h : MAt hp sc) {t : Nat} (ht : sc 5 = nI t) (ht4 : t ≤ 400) (x : Int32) : ab_M rom (d + 2) 149 [.ref 92, .int x] hp = some (some (.int (if 0 ≤ x.toInt ∧ x.toInt ≤ t then x else -1)), if 0 ≤ x.toInt ∧ x.toInt ≤ t then hp.set 92 (.inr (.inr (7, q_mf (q_up sc 5 x)))) else hp) := by
  rw [mX9_end]
  simp only [sX9_end_0, sX9_end_1, sX9_end_2, sX9_end_3, sX9_end_4, sX9_end_7, sX9_end_8_0, sX9_end_8_1, sX9_end_8_2, sX9_end_8_3, sX9_end_11, sX9_end_14, sX9_end_15, sX9_end_16, sX9_end_17, sX9_end_18, sX9_end_21, sX9_end_22, h.f5, h.p5, Option.bind_some, Option.toList_some, Option.toList_none, List.cons_append, List.nil_append, r_in, qB_if, Int32.toInt_toInt64, ht, nI_toInt (show t < 2 ^ 31 by omega), decide_eq_true_eq]
  rw [show (0 : Int64).toInt = 0 from rfl]
  by_cases h1 : 0 ≤ x.toInt ∧ x.toInt ≤ t
  · rw [if_pos h1, if_pos h1, if_pos h1]
  · rw [if_neg h1, if_neg h1, if_neg h1]
end
section
variable {rom : List (List Int32)} {hp : ab_H} {d L : Nat} {fn fp : Int32} {bs : List Int32}
/-- the class's end -/
theorem c_end (h : ClsAt hp fn fp) (t : TapeAt hp 1 L bs) (hL : L ≤ 400) (x : Int32) : ab_M rom (d + 1) 89 [.ref 0, .int x] hp = some (some (.int (if 0 ≤ x.toInt ∧ x.toInt ≤ L then x else -1)), if 0 ≤ x.toInt ∧ x.toInt ≤ L then q_tp hp 1 x.toInt.toNat bs else hp) := by
  have hc : (nI L < x) ↔ (L : Int) < x.toInt := by rw [Int32.lt_iff_toInt_lt, nI_toInt (by omega)]
  have hset : 0 ≤ x.toInt → hp.set 1 (.inr (.inr (5, [.ref (1 + 1), .int x]))) = q_tp hp 1 x.toInt.toNat bs := by
    intro h0
    unfold q_tp
    rw [ab_set_id t.2.1, ← q_nat h0]
  rw [mX8_end]
  simp only [sX8_end_0, sX8_end_1, sX8_end_4, sX8_end_5, sX8_end_6, sX8_end_9, sX8_end_12, sX8_end_15, sX8_end_16, sX8_end_17, sX8_end_18, sX8_end_21, sX8_end_22, sX8_end_25, sX8_end_26, h.f0, t.f1, Option.bind_some, Option.toList_some, Option.toList_none, List.cons_append, List.nil_append, q_lt0, hc, ab_fpt_at t.1 (show 1 < ([.ref (1 + 1), .int (nI L)] : List Value).length from Nat.le_of_ble_eq_true rfl)]
  by_cases h1 : x.toInt < 0
  · rw [if_pos h1, if_neg (by omega), if_neg (by omega)]
  · rw [if_neg h1]
    by_cases h2 : (L : Int) < x.toInt
    · rw [if_pos h2, if_neg (by omega), if_neg (by omega)]
    · rw [if_neg h2, if_pos (by omega), if_pos (by omega), ← hset (by omega)]
      rfl
end
