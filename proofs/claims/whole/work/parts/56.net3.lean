theorem NetAt.other {hp : ab_H} {j n m k n1 m1 : Nat} {lo hi lab bes lo1 hi1 lab1 bes1 : List Int32} (h : NetAt hp j n m lo hi lab bes) (hd : j + 4 < k ∨ k + 4 < j) : NetAt (q_np hp k n1 m1 lo1 hi1 lab1 bes1) j n m lo hi lab bes := by
  obtain ⟨h0, h1, h2, h3, h4, l1, l2, l3, l4⟩ := h
  refine ⟨?_, ?_, ?_, ?_, ?_, l1, l2, l3, l4⟩
  · rw [q_np_ne (by omega)]; exact h0
  · rw [q_np_ne (by omega)]; exact h1
  · rw [q_np_ne (by omega)]; exact h2
  · rw [q_np_ne (by omega)]; exact h3
  · rw [q_np_ne (by omega)]; exact h4
theorem ab_cp_at {hp : ab_H} {a b c : Nat} {xs ys : List Int32} (ha : hp[a]? = some (.inl (0, xs))) (hb : hp[b]? = some (.inl (0, ys))) (hx : xs.length = c) (hy : ys.length = c) (hc : c ≤ 1000) : ab_cp hp a b 0 0 (nI c) = some (hp.set b (.inl (0, xs))) := by
  unfold ab_cp
  rw [ha, hb]
  have e1 : (nI c).toNatClampNeg = c := nI_clamp (by omega)
  have e0 : (0 : Int32).toNatClampNeg = 0 := rfl
  have hcp : ab_cpy xs ys 0 0 c = xs := by
    unfold ab_cpy
    rw [List.take_zero, List.nil_append, List.drop_zero, List.take_of_length_le (by omega), Nat.zero_add, List.drop_eq_nil_of_le (by omega), List.append_nil]
  simp only [e1, e0, hcp]
  rw [if_pos ⟨by decide, by decide, nI_pos (by omega), by omega, by omega⟩]
section
variable {rom : List (List Int32)} {hp : ab_H} {d k n m j n2 m2 : Nat} {lo hi lab bes lo2 hi2 lab2 bes2 : List Int32}
set_option maxHeartbeats 1000000 in
/-- Net.copyOf -/
theorem c_copyOf (h : NetAt hp k n m lo hi lab bes) (g : NetAt hp j n2 m2 lo2 hi2 lab2 bes2) (hd : j + 4 < k ∨ k + 4 < j) : ab_M rom (d + 1) 17 [.ref k, .ref j] hp = some (none, q_np hp k n2 m2 lo2 hi2 lab2 bes2) := by
  have hk := h.len
  obtain ⟨-, -, -, -, -, l1, l2, l3, l4⟩ := id h
  obtain ⟨-, -, -, -, -, r1, r2, r3, r4⟩ := id g
  have t1 := q_np_at (n := n2) (m := m) hk l1 l2 l3 l4
  have g1 : NetAt (q_np hp k n2 m lo hi lab bes) j n2 m2 lo2 hi2 lab2 bes2 := g.other hd
  have t2 := q_np_at (n := n2) (m := m2) hk l1 l2 l3 l4
  have g2 : NetAt (q_np hp k n2 m2 lo hi lab bes) j n2 m2 lo2 hi2 lab2 bes2 := g.other hd
  have t3 := q_np_at (n := n2) (m := m2) hk r1 l2 l3 l4
  have g3 : NetAt (q_np hp k n2 m2 lo2 hi lab bes) j n2 m2 lo2 hi2 lab2 bes2 := g.other hd
  have t4 := q_np_at (n := n2) (m := m2) hk r1 r2 l3 l4
  have g4 : NetAt (q_np hp k n2 m2 lo2 hi2 lab bes) j n2 m2 lo2 hi2 lab2 bes2 := g.other hd
  have t5 := q_np_at (n := n2) (m := m2) hk r1 r2 r3 l4
  have g5 : NetAt (q_np hp k n2 m2 lo2 hi2 lab2 bes) j n2 m2 lo2 hi2 lab2 bes2 := g.other hd
  have c1 : ab_cp (q_np hp k n2 m2 lo hi lab bes) (j + 1) (k + 1) 0 0 10 = some (q_np hp k n2 m2 lo2 hi lab bes) := by
    rw [show (10 : Int32) = nI 10 from rfl, ab_cp_at g2.2.1 t2.2.1 r1 l1 (by omega), q_setlo t2 r1, q_np_np hk r1 l2 l3 l4]
  have c2 : ab_cp (q_np hp k n2 m2 lo2 hi lab bes) (j + 2) (k + 2) 0 0 10 = some (q_np hp k n2 m2 lo2 hi2 lab bes) := by
    rw [show (10 : Int32) = nI 10 from rfl, ab_cp_at g3.2.2.1 t3.2.2.1 r2 l2 (by omega), q_sethi t3 r2, q_np_np hk r1 r2 l3 l4]
  have c3 : ab_cp (q_np hp k n2 m2 lo2 hi2 lab bes) (j + 3) (k + 3) 0 0 7 = some (q_np hp k n2 m2 lo2 hi2 lab2 bes) := by
    rw [show (7 : Int32) = nI 7 from rfl, ab_cp_at g4.2.2.2.1 t4.2.2.2.1 r3 l3 (by omega), q_setlab t4 r3, q_np_np hk r1 r2 r3 l4]
  have c4 : ab_cp (q_np hp k n2 m2 lo2 hi2 lab2 bes) (j + 4) (k + 4) 0 0 7 = some (q_np hp k n2 m2 lo2 hi2 lab2 bes2) := by
    rw [show (7 : Int32) = nI 7 from rfl, ab_cp_at g5.2.2.2.2.1 t5.2.2.2.2.1 r4 l4 (by omega), q_setbes t5 r4, q_np_np hk r1 r2 r3 r4]
  have p1 : ab_fpt (q_np hp k n2 m lo hi lab bes) k 1 1 (.int (nI m2)) = some (q_np hp k n2 m2 lo hi lab bes) := by
    rw [t1.p1, q_np_np hk l1 l2 l3 l4]
  rw [mX3_copyOf]
  simp only [sX3_copyOf_0, sX3_copyOf_1, sX3_copyOf_2, sX3_copyOf_5, sX3_copyOf_8, sX3_copyOf_9, sX3_copyOf_10, sX3_copyOf_13, sX3_copyOf_16, sX3_copyOf_17, sX3_copyOf_20, sX3_copyOf_21, sX3_copyOf_22, sX3_copyOf_25, sX3_copyOf_26, sX3_copyOf_28_0, sX3_copyOf_31, sX3_copyOf_32, sX3_copyOf_35, sX3_copyOf_36, sX3_copyOf_37, sX3_copyOf_40, sX3_copyOf_41, sX3_copyOf_43_0, sX3_copyOf_46, sX3_copyOf_47, sX3_copyOf_50, sX3_copyOf_51, sX3_copyOf_52, sX3_copyOf_55, sX3_copyOf_56, sX3_copyOf_58_0, sX3_copyOf_61, sX3_copyOf_62, sX3_copyOf_65, sX3_copyOf_66, sX3_copyOf_67, sX3_copyOf_70, sX3_copyOf_71, sX3_copyOf_73_0, sX3_copyOf_76, g.f0, Option.bind_some, Option.toList_some, Option.toList_none, List.cons_append, List.nil_append, h.p0, g1.f1, p1, g2.f2, t2.f2, c1, g3.f3, t3.f3, c2, g4.f4, t4.f4, c3, g5.f5, t5.f5, c4]
end
