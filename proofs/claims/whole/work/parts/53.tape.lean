/-! A TAPE of the class at place k -/
def TapeAt (hp : ab_H) (k L : Nat) (bs : List Int32) : Prop := hp[k]? = some (.inr (.inr (5, [.ref (k + 1), .int (nI L)]))) ∧ hp[k + 1]? = some (.inl (0, bs)) ∧ bs.length = 400
def q_tp (hp : ab_H) (k L : Nat) (bs : List Int32) : ab_H := (hp.set (k + 1) (.inl (0, bs))).set k (.inr (.inr (5, [.ref (k + 1), .int (nI L)])))
theorem q_tp_at {hp : ab_H} {k L L2 : Nat} {bs bs2 : List Int32} (h : TapeAt hp k L bs) (hb : bs2.length = 400) : TapeAt (q_tp hp k L2 bs2) k L2 bs2 := by
  have l1 := ab_lt h.1
  have l2 := ab_lt h.2.1
  refine ⟨?_, ?_, hb⟩
  · exact ab_set_self (by rw [List.length_set]; exact l1)
  · unfold q_tp
    rw [ab_set_ne (by omega)]
    exact ab_set_self l2
theorem q_tp_tp (hp : ab_H) (k L L2 : Nat) (bs bs2 : List Int32) : q_tp (q_tp hp k L bs) k L2 bs2 = q_tp hp k L2 bs2 := by
  unfold q_tp
  rw [List.set_comm _ _ (show k ≠ k + 1 by omega), ab_set_set, ab_set_set]
theorem q_tp_ne {hp : ab_H} {k L j : Nat} {bs : List Int32} (h1 : j ≠ k) (h2 : j ≠ k + 1) : (q_tp hp k L bs)[j]? = hp[j]? := by
  unfold q_tp
  rw [ab_set_ne (Ne.symm h1), ab_set_ne (Ne.symm h2)]
section
variable {rom : List (List Int32)} {hp : ab_H} {d k L : Nat} {bs : List Int32}
theorem TapeAt.iso (h : TapeAt hp k L bs) : ab_iso hp k 5 = true := ab_iso_at h.1
theorem TapeAt.f0 (h : TapeAt hp k L bs) : ab_fld hp k 5 0 = some (.ref (k + 1)) := by rw [ab_fld_at h.1]; rfl
theorem TapeAt.f1 (h : TapeAt hp k L bs) : ab_fld hp k 5 1 = some (.int (nI L)) := by rw [ab_fld_at h.1]; rfl
/-- Tape.putByte -/
theorem c_putByte (h : TapeAt hp k L bs) (hL : L < 400) (x : Int32) : ab_M rom (d + 1) 76 [.ref k, .int x] hp = some (none, q_tp hp k (L + 1) (bs.set L (x &&& 255))) := by
  have l1 := ab_lt h.1
  have h3 : (hp.set (k + 1) (.inl (0, bs.set L (x &&& 255))))[k]? = some (.inr (.inr (5, [.ref (k + 1), .int (nI L)]))) := by
    rw [ab_set_ne (by omega)]
    exact h.1
  rw [mX7_putByte]
  simp only [sX7_putByte_0, sX7_putByte_1, sX7_putByte_4, sX7_putByte_7, sX7_putByte_10, sX7_putByte_11, sX7_putByte_14, sX7_putByte_15, sX7_putByte_18, sX7_putByte_19, sX7_putByte_22, sX7_putByte_23, sX7_putByte_24, sX7_putByte_25i, sX7_putByte_25r, sX7_putByte_26, sX7_putByte_29, sX7_putByte_30, sX7_putByte_31, sX7_putByte_34, h.f0, h.f1, Option.bind_some, Option.toList_some, Option.toList_none, List.cons_append, List.nil_append]
  rw [if_pos (show nI L < 400 from nI_lt hL (by decide)), ab_awr_n h.2.1 (by rw [h.2.2]; exact hL) (by rw [h.2.2]; decide)]
  simp only [Option.bind_some, Option.toList_some, Option.toList_none, List.cons_append, List.nil_append, ab_fld_at h3, List.getElem?_cons_succ, List.getElem?_cons_zero, sX7_putByte_0, sX7_putByte_1, sX7_putByte_4, sX7_putByte_7, sX7_putByte_10, sX7_putByte_11, sX7_putByte_14, sX7_putByte_15, sX7_putByte_18, sX7_putByte_19, sX7_putByte_22, sX7_putByte_23, sX7_putByte_24, sX7_putByte_25i, sX7_putByte_25r, sX7_putByte_26, sX7_putByte_29, sX7_putByte_30, sX7_putByte_31, sX7_putByte_34]
  rw [ab_fpt_at h3 (by simp)]
  simp only [Option.bind_some, Option.toList_some, Option.toList_none, List.cons_append, List.nil_append, nI_1, List.set_cons_succ, List.set_cons_zero]
  rfl
/-- a full one stays -/
theorem c_putByte_full (h : TapeAt hp k 400 bs) (x : Int32) : ab_M rom (d + 1) 76 [.ref k, .int x] hp = some (none, hp) := by
  rw [mX7_putByte]
  simp only [sX7_putByte_0, sX7_putByte_1, sX7_putByte_4, sX7_putByte_7, sX7_putByte_10, sX7_putByte_11, sX7_putByte_14, sX7_putByte_15, sX7_putByte_18, sX7_putByte_19, sX7_putByte_22, sX7_putByte_23, sX7_putByte_24, sX7_putByte_25i, sX7_putByte_25r, sX7_putByte_26, sX7_putByte_29, sX7_putByte_30, sX7_putByte_31, sX7_putByte_34, h.f1, Option.bind_some, Option.toList_some, Option.toList_none, List.cons_append, List.nil_append]
  rw [if_neg (show ¬ nI 400 < 400 from by decide)]
/-- the four bytes of an int, the greatest first -/
def q_by (x : Int32) (j : Nat) : Int32 := (x.toUInt32 >>> ((nI (24 - 8 * j)).toUInt32 &&& Int32.toUInt32 31)).toInt32 &&& 255
/-- Tape.putFour -/
theorem c_putFour (h : TapeAt hp k L bs) (hL : L + 4 ≤ 400) (x : Int32) : ab_M rom (d + 2) 77 [.ref k, .int x] hp = some (none, q_tp hp k (L + 4) ((((bs.set L (q_by x 0)).set (L + 1) (q_by x 1)).set (L + 2) (q_by x 2)).set (L + 3) (x &&& 255))) := by
  rw [mX7_putFour]
  have hb := h.2.2
  have t1 := q_tp_at (L2 := L + 1) (bs2 := bs.set L (q_by x 0)) h (by simp [hb])
  have t2 := q_tp_at (L2 := L + 2) (bs2 := (bs.set L (q_by x 0)).set (L + 1) (q_by x 1)) h (by simp [hb])
  have t3 := q_tp_at (L2 := L + 3) (bs2 := ((bs.set L (q_by x 0)).set (L + 1) (q_by x 1)).set (L + 2) (q_by x 2)) h (by simp [hb])
  have e1 := c_putByte (rom := rom) (d := d) h (by omega) (x.toUInt32 >>> ((24 : Int32).toUInt32 &&& Int32.toUInt32 31)).toInt32
  have e2 := c_putByte (rom := rom) (d := d) t1 (by omega) (x.toUInt32 >>> ((16 : Int32).toUInt32 &&& Int32.toUInt32 31)).toInt32
  have e3 := c_putByte (rom := rom) (d := d) t2 (by omega) (x.toUInt32 >>> ((8 : Int32).toUInt32 &&& Int32.toUInt32 31)).toInt32
  have e4 := c_putByte (rom := rom) (d := d) t3 (by omega) x
  rw [q_tp_tp] at e2 e3 e4
  simp only [sX7_putFour_0, sX7_putFour_1, sX7_putFour_2, sX7_putFour_4, sX7_putFour_5_0, sX7_putFour_5_1, sX7_putFour_5_2, sX7_putFour_5_3, sX7_putFour_8, sX7_putFour_9, sX7_putFour_10, sX7_putFour_12, sX7_putFour_13_0, sX7_putFour_13_1, sX7_putFour_13_2, sX7_putFour_13_3, sX7_putFour_16, sX7_putFour_17, sX7_putFour_18, sX7_putFour_20, sX7_putFour_21_0, sX7_putFour_21_1, sX7_putFour_21_2, sX7_putFour_21_3, sX7_putFour_24, sX7_putFour_25, sX7_putFour_26_0, sX7_putFour_26_1, sX7_putFour_26_2, sX7_putFour_26_3, sX7_putFour_29, h.iso, if_true, Option.bind_some, Option.toList_some, Option.toList_none, List.cons_append, List.nil_append, e1]
  rw [show (x.toUInt32 >>> ((24 : Int32).toUInt32 &&& Int32.toUInt32 31)).toInt32 &&& 255 = q_by x 0 from rfl]
  simp only [sX7_putFour_0, sX7_putFour_1, sX7_putFour_2, sX7_putFour_4, sX7_putFour_5_0, sX7_putFour_5_1, sX7_putFour_5_2, sX7_putFour_5_3, sX7_putFour_8, sX7_putFour_9, sX7_putFour_10, sX7_putFour_12, sX7_putFour_13_0, sX7_putFour_13_1, sX7_putFour_13_2, sX7_putFour_13_3, sX7_putFour_16, sX7_putFour_17, sX7_putFour_18, sX7_putFour_20, sX7_putFour_21_0, sX7_putFour_21_1, sX7_putFour_21_2, sX7_putFour_21_3, sX7_putFour_24, sX7_putFour_25, sX7_putFour_26_0, sX7_putFour_26_1, sX7_putFour_26_2, sX7_putFour_26_3, sX7_putFour_29, t1.iso, if_true, Option.bind_some, Option.toList_some, Option.toList_none, List.cons_append, List.nil_append, e2]
  rw [show (x.toUInt32 >>> ((16 : Int32).toUInt32 &&& Int32.toUInt32 31)).toInt32 &&& 255 = q_by x 1 from rfl]
  simp only [sX7_putFour_0, sX7_putFour_1, sX7_putFour_2, sX7_putFour_4, sX7_putFour_5_0, sX7_putFour_5_1, sX7_putFour_5_2, sX7_putFour_5_3, sX7_putFour_8, sX7_putFour_9, sX7_putFour_10, sX7_putFour_12, sX7_putFour_13_0, sX7_putFour_13_1, sX7_putFour_13_2, sX7_putFour_13_3, sX7_putFour_16, sX7_putFour_17, sX7_putFour_18, sX7_putFour_20, sX7_putFour_21_0, sX7_putFour_21_1, sX7_putFour_21_2, sX7_putFour_21_3, sX7_putFour_24, sX7_putFour_25, sX7_putFour_26_0, sX7_putFour_26_1, sX7_putFour_26_2, sX7_putFour_26_3, sX7_putFour_29, t2.iso, if_true, Option.bind_some, Option.toList_some, Option.toList_none, List.cons_append, List.nil_append, e3]
  rw [show (x.toUInt32 >>> ((8 : Int32).toUInt32 &&& Int32.toUInt32 31)).toInt32 &&& 255 = q_by x 2 from rfl]
  simp only [sX7_putFour_0, sX7_putFour_1, sX7_putFour_2, sX7_putFour_4, sX7_putFour_5_0, sX7_putFour_5_1, sX7_putFour_5_2, sX7_putFour_5_3, sX7_putFour_8, sX7_putFour_9, sX7_putFour_10, sX7_putFour_12, sX7_putFour_13_0, sX7_putFour_13_1, sX7_putFour_13_2, sX7_putFour_13_3, sX7_putFour_16, sX7_putFour_17, sX7_putFour_18, sX7_putFour_20, sX7_putFour_21_0, sX7_putFour_21_1, sX7_putFour_21_2, sX7_putFour_21_3, sX7_putFour_24, sX7_putFour_25, sX7_putFour_26_0, sX7_putFour_26_1, sX7_putFour_26_2, sX7_putFour_26_3, sX7_putFour_29, t3.iso, if_true, Option.bind_some, Option.toList_some, Option.toList_none, List.cons_append, List.nil_append, e4]
end
