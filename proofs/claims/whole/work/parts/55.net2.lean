/-! A NET written anew -/
def q_no (k n m : Nat) : ab_C := .inr (.inr (1, [.int (nI n), .int (nI m), .ref (k + 1), .ref (k + 2), .ref (k + 3), .ref (k + 4)]))
def q_np (hp : ab_H) (k n m : Nat) (lo hi lab bes : List Int32) : ab_H := ((((hp.set k (q_no k n m)).set (k + 1) (.inl (0, lo))).set (k + 2) (.inl (0, hi))).set (k + 3) (.inl (0, lab))).set (k + 4) (.inl (0, bes))
theorem q_np_ne {hp : ab_H} {k n m j : Nat} {lo hi lab bes : List Int32} (h : j < k ∨ k + 4 < j) : (q_np hp k n m lo hi lab bes)[j]? = hp[j]? := by
  unfold q_np
  rw [ab_set_ne (by omega), ab_set_ne (by omega), ab_set_ne (by omega), ab_set_ne (by omega), ab_set_ne (by omega)]
theorem q_np_len {hp : ab_H} {k n m : Nat} {lo hi lab bes : List Int32} : (q_np hp k n m lo hi lab bes).length = hp.length := by
  unfold q_np
  simp only [List.length_set]
theorem q_np_at {hp : ab_H} {k n m : Nat} {lo hi lab bes : List Int32} (hk : k + 4 < hp.length) (l1 : lo.length = 10) (l2 : hi.length = 10) (l3 : lab.length = 7) (l4 : bes.length = 7) : NetAt (q_np hp k n m lo hi lab bes) k n m lo hi lab bes := by
  unfold q_np
  refine ⟨?_, ?_, ?_, ?_, ?_, l1, l2, l3, l4⟩
  · rw [ab_set_ne (by omega), ab_set_ne (by omega), ab_set_ne (by omega), ab_set_ne (by omega), ab_set_self (by omega)]
    rfl
  · rw [ab_set_ne (by omega), ab_set_ne (by omega), ab_set_ne (by omega), ab_set_self (by rw [List.length_set]; omega)]
  · rw [ab_set_ne (by omega), ab_set_ne (by omega), ab_set_self (by rw [List.length_set, List.length_set]; omega)]
  · rw [ab_set_ne (by omega), ab_set_self (by rw [List.length_set, List.length_set, List.length_set]; omega)]
  · rw [ab_set_self (by rw [List.length_set, List.length_set, List.length_set, List.length_set]; omega)]
theorem NetAt.len {hp : ab_H} {k n m : Nat} {lo hi lab bes : List Int32} (h : NetAt hp k n m lo hi lab bes) : k + 4 < hp.length := ab_lt h.2.2.2.2.1
/-- two heaps that are alike but for a net's places, where the one has the net -/
theorem q_np_eq {hp H : ab_H} {k n m : Nat} {lo hi lab bes : List Int32} (hk : k + 4 < hp.length) (h : NetAt H k n m lo hi lab bes) (hne : ∀ j, j < k ∨ k + 4 < j → H[j]? = hp[j]?) : H = q_np hp k n m lo hi lab bes := by
  obtain ⟨h0, h1, h2, h3, h4, l1, l2, l3, l4⟩ := h
  obtain ⟨g0, g1, g2, g3, g4, -⟩ := q_np_at (n := n) (m := m) hk l1 l2 l3 l4
  apply List.ext_getElem?
  intro j
  by_cases hj : j < k ∨ k + 4 < j
  · rw [hne j hj, q_np_ne hj]
  · have hc : j = k ∨ j = k + 1 ∨ j = k + 2 ∨ j = k + 3 ∨ j = k + 4 := by omega
    rcases hc with e | e | e | e | e <;> subst e
    · rw [h0, g0]
    · rw [h1, g1]
    · rw [h2, g2]
    · rw [h3, g3]
    · rw [h4, g4]
theorem q_np_np {hp : ab_H} {k n m n2 m2 : Nat} {lo hi lab bes lo2 hi2 lab2 bes2 : List Int32} (hk : k + 4 < hp.length) (l1 : lo2.length = 10) (l2 : hi2.length = 10) (l3 : lab2.length = 7) (l4 : bes2.length = 7) : q_np (q_np hp k n m lo hi lab bes) k n2 m2 lo2 hi2 lab2 bes2 = q_np hp k n2 m2 lo2 hi2 lab2 bes2 :=
  q_np_eq hk (q_np_at (by rw [q_np_len]; exact hk) l1 l2 l3 l4) (fun j hj => by rw [q_np_ne hj, q_np_ne hj])
theorem q_np_id {hp : ab_H} {k n m : Nat} {lo hi lab bes : List Int32} (h : NetAt hp k n m lo hi lab bes) : q_np hp k n m lo hi lab bes = hp := (q_np_eq h.len h (fun _ _ => rfl)).symm
section
variable {rom : List (List Int32)} {hp : ab_H} {d k n m : Nat} {lo hi lab bes : List Int32}
theorem q_setlab (h : NetAt hp k n m lo hi lab bes) {lab2 : List Int32} (hl : lab2.length = 7) : hp.set (k + 3) (.inl (0, lab2)) = q_np hp k n m lo hi lab2 bes := by
  have hk := h.len
  obtain ⟨h0, h1, h2, h3, h4, l1, l2, l3, l4⟩ := h
  refine q_np_eq hk ⟨?_, ?_, ?_, ?_, ?_, l1, l2, hl, l4⟩ (fun j hj => ab_set_ne (by omega))
  · rw [ab_set_ne (by omega)]; exact h0
  · rw [ab_set_ne (by omega)]; exact h1
  · rw [ab_set_ne (by omega)]; exact h2
  · exact ab_set_self (by omega)
  · rw [ab_set_ne (by omega)]; exact h4
theorem q_setbes (h : NetAt hp k n m lo hi lab bes) {bes2 : List Int32} (hl : bes2.length = 7) : hp.set (k + 4) (.inl (0, bes2)) = q_np hp k n m lo hi lab bes2 := by
  have hk := h.len
  obtain ⟨h0, h1, h2, h3, h4, l1, l2, l3, l4⟩ := h
  refine q_np_eq hk ⟨?_, ?_, ?_, ?_, ?_, l1, l2, l3, hl⟩ (fun j hj => ab_set_ne (by omega))
  · rw [ab_set_ne (by omega)]; exact h0
  · rw [ab_set_ne (by omega)]; exact h1
  · rw [ab_set_ne (by omega)]; exact h2
  · rw [ab_set_ne (by omega)]; exact h3
  · exact ab_set_self (by omega)
theorem q_setlo (h : NetAt hp k n m lo hi lab bes) {lo2 : List Int32} (hl : lo2.length = 10) : hp.set (k + 1) (.inl (0, lo2)) = q_np hp k n m lo2 hi lab bes := by
  have hk := h.len
  obtain ⟨h0, h1, h2, h3, h4, l1, l2, l3, l4⟩ := h
  refine q_np_eq hk ⟨?_, ?_, ?_, ?_, ?_, hl, l2, l3, l4⟩ (fun j hj => ab_set_ne (by omega))
  · rw [ab_set_ne (by omega)]; exact h0
  · exact ab_set_self (by omega)
  · rw [ab_set_ne (by omega)]; exact h2
  · rw [ab_set_ne (by omega)]; exact h3
  · rw [ab_set_ne (by omega)]; exact h4
theorem q_sethi (h : NetAt hp k n m lo hi lab bes) {hi2 : List Int32} (hl : hi2.length = 10) : hp.set (k + 2) (.inl (0, hi2)) = q_np hp k n m lo hi2 lab bes := by
  have hk := h.len
  obtain ⟨h0, h1, h2, h3, h4, l1, l2, l3, l4⟩ := h
  refine q_np_eq hk ⟨?_, ?_, ?_, ?_, ?_, l1, hl, l3, l4⟩ (fun j hj => ab_set_ne (by omega))
  · rw [ab_set_ne (by omega)]; exact h0
  · rw [ab_set_ne (by omega)]; exact h1
  · exact ab_set_self (by omega)
  · rw [ab_set_ne (by omega)]; exact h3
  · rw [ab_set_ne (by omega)]; exact h4
theorem q_setobj (h : NetAt hp k n m lo hi lab bes) (n2 m2 : Nat) : hp.set k (q_no k n2 m2) = q_np hp k n2 m2 lo hi lab bes := by
  have hk := h.len
  obtain ⟨h0, h1, h2, h3, h4, l1, l2, l3, l4⟩ := h
  refine q_np_eq hk ⟨?_, ?_, ?_, ?_, ?_, l1, l2, l3, l4⟩ (fun j hj => ab_set_ne (by omega))
  · exact ab_set_self (by omega)
  · rw [ab_set_ne (by omega)]; exact h1
  · rw [ab_set_ne (by omega)]; exact h2
  · rw [ab_set_ne (by omega)]; exact h3
  · rw [ab_set_ne (by omega)]; exact h4
theorem NetAt.p0 (h : NetAt hp k n m lo hi lab bes) (n2 : Nat) : ab_fpt hp k 1 0 (.int (nI n2)) = some (q_np hp k n2 m lo hi lab bes) := by
  rw [ab_fpt_at h.1 (by simp), ← q_setobj h]
  rfl
theorem NetAt.p1 (h : NetAt hp k n m lo hi lab bes) (m2 : Nat) : ab_fpt hp k 1 1 (.int (nI m2)) = some (q_np hp k n m2 lo hi lab bes) := by
  rw [ab_fpt_at h.1 (by simp), ← q_setobj h]
  rfl
theorem NetAt.wlab (h : NetAt hp k n m lo hi lab bes) {i : Nat} (h9 : i < 7) (y : Int32) : ab_awr 0 hp (k + 3) (nI i) y = some (q_np hp k n m lo hi (lab.set i y) bes) := by
  have l3 : lab.length = 7 := h.2.2.2.2.2.2.2.1
  rw [ab_awr_n h.2.2.2.1 (by omega) (by omega), q_setlab h (by rw [List.length_set]; exact l3)]
/-- Net.clearLabels -/
theorem c_clearLabels (h : NetAt hp k n m lo hi lab bes) : ab_M rom (d + 2) 16 [.ref k] hp = some (none, q_np hp k n m lo hi (List.replicate 7 (-1)) bes) := by
  have l3 : lab.length = 7 := h.2.2.2.2.2.2.2.1
  rw [mX3_clearLabels]
  simp only [sX3_clearLabels_0, sX3_clearLabels_1, sX3_clearLabels_4, sX3_clearLabels_5_0, sX3_clearLabels_5_1, sX3_clearLabels_5_2, sX3_clearLabels_5_3, sX3_clearLabels_8, h.f4, Option.bind_some, Option.toList_some, Option.toList_none, List.cons_append, List.nil_append, j_fill (-1) h.2.2.2.1 (by omega), l3]
  rw [q_setlab h (by simp)]
/-- Net.clear -/
theorem c_clear (h : NetAt hp k n m lo hi lab bes) (n2 : Nat) : ab_M rom (d + 3) 15 [.ref k, .int (nI n2)] hp = some (none, q_np hp k n2 0 lo hi (List.replicate 7 (-1)) (List.replicate 7 0)) := by
  have hk := h.len
  obtain ⟨-, -, -, -, -, l1, l2, l3, l4⟩ := id h
  have t1 := q_np_at (n := n2) (m := m) hk l1 l2 l3 l4
  have t2 := q_np_at (n := n2) (m := 0) hk l1 l2 l3 l4
  have t3 := q_np_at (n := n2) (m := 0) (bes := List.replicate 7 0) hk l1 l2 l3 (by simp)
  have e0 : (.int 0 : Value) = .int (nI 0) := by rw [nI_0]
  rw [mX3_clear]
  simp only [sX3_clear_0, sX3_clear_1, sX3_clear_2, sX3_clear_5, sX3_clear_6, sX3_clear_7, sX3_clear_10, sX3_clear_11, sX3_clear_14, sX3_clear_15_0, sX3_clear_15_1, sX3_clear_15_2, sX3_clear_15_3, sX3_clear_18, sX3_clear_19_0, sX3_clear_19_1, sX3_clear_19_2, sX3_clear_19_3, sX3_clear_22, h.p0, Option.bind_some, Option.toList_some, Option.toList_none, List.cons_append, List.nil_append]
  rw [e0, t1.p1, q_np_np hk l1 l2 l3 l4]
  simp only [sX3_clear_0, sX3_clear_1, sX3_clear_2, sX3_clear_5, sX3_clear_6, sX3_clear_7, sX3_clear_10, sX3_clear_11, sX3_clear_14, sX3_clear_15_0, sX3_clear_15_1, sX3_clear_15_2, sX3_clear_15_3, sX3_clear_18, sX3_clear_19_0, sX3_clear_19_1, sX3_clear_19_2, sX3_clear_19_3, sX3_clear_22, Option.bind_some, Option.toList_some, Option.toList_none, List.cons_append, List.nil_append, t2.f5]
  rw [nI_0, j_fill 0 t2.2.2.2.2.1 (by omega), l4, q_setbes t2 (by simp), q_np_np hk l1 l2 l3 (by simp)]
  simp only [sX3_clear_0, sX3_clear_1, sX3_clear_2, sX3_clear_5, sX3_clear_6, sX3_clear_7, sX3_clear_10, sX3_clear_11, sX3_clear_14, sX3_clear_15_0, sX3_clear_15_1, sX3_clear_15_2, sX3_clear_15_3, sX3_clear_18, sX3_clear_19_0, sX3_clear_19_1, sX3_clear_19_2, sX3_clear_19_3, sX3_clear_22, Option.bind_some, Option.toList_some, Option.toList_none, List.cons_append, List.nil_append, t3.iso, if_true]
  rw [c_clearLabels t3, q_np_np hk l1 l2 (by simp) (by simp)]
  simp only [sX3_clear_0, sX3_clear_1, sX3_clear_2, sX3_clear_5, sX3_clear_6, sX3_clear_7, sX3_clear_10, sX3_clear_11, sX3_clear_14, sX3_clear_15_0, sX3_clear_15_1, sX3_clear_15_2, sX3_clear_15_3, sX3_clear_18, sX3_clear_19_0, sX3_clear_19_1, sX3_clear_19_2, sX3_clear_19_3, sX3_clear_22, Option.bind_some, Option.toList_some, Option.toList_none, List.cons_append, List.nil_append]
end
