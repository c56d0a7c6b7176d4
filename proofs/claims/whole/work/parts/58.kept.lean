/-! THE REFERENCE'S PAST -/
theorem q_mix {xs ys : List Int32} {i : Nat} (h1 : i < xs.length) (h2 : i < ys.length) : (xs.take i ++ ys.drop i).set i (xs.getD i 0) = xs.take (i + 1) ++ ys.drop (i + 1) := by
  have e1 : (xs.take i).length = i := by rw [List.length_take]; omega
  rw [List.set_append_right _ _ (by omega), e1, Nat.sub_self, List.drop_eq_getElem_cons h2, List.set_cons_zero, List.getD_eq_getElem?_getD, List.getElem?_eq_getElem h1, Option.getD_some, List.take_succ_eq_append_getElem h1, List.append_assoc]
  rfl
theorem q_mix_len {xs ys : List Int32} {i : Nat} (h1 : i ≤ xs.length) (h2 : ys.length = xs.length) : (xs.take i ++ ys.drop i).length = xs.length := by
  rw [List.length_append, List.length_take, List.length_drop]
  omega
section
variable {rom : List (List Int32)} {hp : ab_H} {d : Nat} {sc : Nat → Int32} {row was : List Int32}
/-- remembers: the rows as they are -/
theorem r_remembers (h : MAt hp sc) (hr : hp[93]? = some (.inl (0, row))) (hw : hp[94]? = some (.inl (0, was))) (l1 : row.length = 45) (l2 : was.length = 45) : ab_M rom (d + 1) 214 [.ref 92] hp = some (none, hp.set 94 (.inl (0, row))) := by
  rw [mX9_remembers]
  simp only [sX9_remembers_0, sX9_remembers_1i, sX9_remembers_1r, sX9_remembers_1n, sX9_remembers_3, sX9_remembers_5, sX9_remembers_8, sX9_remembers_9, sX9_remembers_12, sX9_remembers_13, sX9_remembers_14, sX9_remembers_17, sX9_remembers_18, sX9_remembers_19, sX9_remembers_20i, sX9_remembers_20r, sX9_remembers_20n, sX9_remembers_23, sX9_remembers_26]
  have hlen := ab_lt hw
  have key := q_loop (fun i (H : ab_H) => H = hp.set 94 (.inl (0, row.take i ++ was.drop i))) (fun i H => ab_X rom (ab_M rom d) cX9_remembers 7 0 2 [.ref 92, .int (nI i)] [] H) (fun i _ => hp.set 94 (.inl (0, row.take (i + 1) ++ was.drop (i + 1)))) 45 (fun i H hi ha => by
    refine ⟨rfl, ?_⟩
    subst ha
    have hM : MAt (hp.set 94 (.inl (0, row.take i ++ was.drop i))) sc := by
      unfold MAt
      rw [ab_set_ne (by omega)]
      exact h
    have hr2 : (hp.set 94 (.inl (0, row.take i ++ was.drop i)))[93]? = some (.inl (0, row)) := by
      rw [ab_set_ne (by omega)]
      exact hr
    have hw2 : (hp.set 94 (.inl (0, row.take i ++ was.drop i)))[94]? = some (.inl (0, row.take i ++ was.drop i)) := ab_set_self hlen
    have l3 : (row.take i ++ was.drop i).length = 45 := by rw [q_mix_len (by omega) (by omega)]; exact l1
    rw [sX9_remembers_2]
    simp only [sX9_remembers_0, sX9_remembers_1i, sX9_remembers_1r, sX9_remembers_1n, sX9_remembers_3, sX9_remembers_5, sX9_remembers_8, sX9_remembers_9, sX9_remembers_12, sX9_remembers_13, sX9_remembers_14, sX9_remembers_17, sX9_remembers_18, sX9_remembers_19, sX9_remembers_20i, sX9_remembers_20r, sX9_remembers_20n, sX9_remembers_23, sX9_remembers_26, hM.f0, hM.f1, Option.bind_some, Option.toList_some, Option.toList_none, List.cons_append, List.nil_append, ab_ard_n hr2 (show i < row.length by omega) (by omega), ab_awr_n hw2 (show i < (row.take i ++ was.drop i).length by omega) (by omega), ab_set_set, q_mix (show i < row.length by omega) (show i < was.length by omega), nI_1]
    rw [if_pos (show nI i < 45 from nI_lt hi (by decide))]) 45 0 hp rfl (by simp [ab_set_id hw])
  refine Eq.trans key.2 ?_
  rw [key.1, sX9_remembers_2]
  simp only [sX9_remembers_3, sX9_remembers_5, sX9_remembers_26]
  rw [if_neg (show ¬ nI 45 < 45 from by decide)]
  simp [l1, l2, List.take_of_length_le, List.drop_eq_nil_of_le]
end
