/-! the rows with conditions as equations without -/
section ABR3
variable {rom : List (List Int32)} {K : Nat → List Value → ab_H → Option ab_O} {b : ByteArray} {cn rt pc pc' : Nat} {ls ls' st : List Value} {hp : ab_H} {x y : Int32} {a : Nat}
theorem ay_idiv (hd : decode b pc = .ok (.idiv, 1)) (e : pc + 1 = pc') : ab_X rom K b cn rt pc ls (.int y :: .int x :: st) hp = if y = 0 then none else ab_X rom K b cn rt pc' ls (.int (x / y) :: st) hp := by
  by_cases h : y = 0
  · rw [if_pos h, ab_X_step hd]
    simp [ab_s, ab_bin, h, ab_next]
  · rw [if_neg h, ax_idiv hd e h]
theorem ay_irem (hd : decode b pc = .ok (.irem, 1)) (e : pc + 1 = pc') : ab_X rom K b cn rt pc ls (.int y :: .int x :: st) hp = if y = 0 then none else ab_X rom K b cn rt pc' ls (.int (ab_rem x y) :: st) hp := by
  by_cases h : y = 0
  · rw [if_pos h, ab_X_step hd]
    simp [ab_s, ab_bin, h, ab_next]
  · rw [if_neg h, ax_irem hd e h]
theorem ay_zret (hd : decode b pc = .ok (.ireturn, 1)) (h : rt = 2) : ab_X rom K b cn rt pc ls [.int x] hp = if x = 0 ∨ x = 1 then some (some (.int x), hp) else none := by
  by_cases hv : x = 0 ∨ x = 1
  · rw [if_pos hv, ax_zret hd h hv]
  · rw [if_neg hv, ab_X_step hd]
    simp [ab_s, h, hv, ab_next]
theorem ay_putbool {idx ci k : Nat} (hd : decode b pc = .ok (.putfield idx, 3)) (hF : ab_lk ab_fT cn idx = some (ci, k, 0, 1)) (e : pc + 3 = pc') : ab_X rom K b cn rt pc ls (.int x :: .ref a :: st) hp = if x = 0 ∨ x = 1 then (ab_fpt hp a ci k (.int x)).bind (fun hp' => ab_X rom K b cn rt pc' ls st hp') else none := by
  by_cases hv : x = 0 ∨ x = 1
  · rw [if_pos hv, ax_putfield hd hF e (Or.inl rfl) (ab_ft_bool hv)]
  · rw [if_neg hv, ab_X_step hd]
    have hf : ab_ft 1 (.int x) = false := by
      simp only [not_or] at hv
      simp [ab_ft, hv.1, hv.2]
    simp only [ab_s, hF, ab_pf, hf, if_true, Bool.false_eq_true, and_false, if_false]
    cases hp[a]? with
    | none => rfl
    | some q =>
      match q with
      | .inl _ => rfl
      | .inr (.inl _) => rfl
      | .inr (.inr (c, fs)) => rfl
theorem ay_bastore (hd : decode b pc = .ok (.bastore, 1)) (e : pc + 1 = pc') : ab_X rom K b cn rt pc ls (.int y :: .int x :: .ref a :: st) hp = if y = 0 ∨ y = 1 then (ab_awr 1 hp a x y).bind (fun hp' => ab_X rom K b cn rt pc' ls st hp') else none := by
  by_cases hv : y = 0 ∨ y = 1
  · rw [if_pos hv, ax_bastore hd e hv]
  · rw [if_neg hv, ab_X_step hd]
    have hf : ab_ft 1 (.int y) = false := by
      simp only [not_or] at hv
      simp [ab_ft, hv.1, hv.2]
    simp only [ab_s, ab_xst, hf, if_true, Bool.false_eq_true, and_false, if_false]
    cases hp[a]? with
    | none => rfl
    | some q =>
      match q with
      | .inr _ => rfl
      | .inl (t, xs) => rfl
theorem ay_virtual {idx mid n ci : Nat} {as : List Value} (hd : decode b pc = .ok (.invokevirtual idx, 3)) (hF : ab_lk ab_cT cn idx = some (0, mid, n, ci)) (hn : as.length = n) (e : pc + 3 = pc') (hs : st.length ≤ 4) : ab_X rom K b cn rt pc ls (as.reverse ++ .ref a :: st) hp = if ab_iso hp a ci = true then (K mid (.ref a :: as) hp).bind (fun o => ab_X rom K b cn rt pc' ls (o.1.toList ++ st) o.2) else none := by
  by_cases ho : ab_iso hp a ci = true
  · rw [if_pos ho, ax_virtual hd hF hn e hs ho]
  · rw [if_neg ho, ab_X_step hd]
    subst hn
    have h1 : (as.reverse ++ .ref a :: st).drop as.length = .ref a :: st := by rw [List.drop_append_of_le_length (by simp)]; simp
    simp only [ab_s, hF, ab_call, if_true, h1]
    unfold ab_iso at ho
    rw [if_neg (by simp), if_pos (by simp)]
    split
    · rename_i c fs hh
      rw [hh] at ho
      have hc : ¬ c = ci := fun q => ho (decide_eq_true q)
      rw [if_neg (fun q => hc q.1)]
      rfl
    · rfl
theorem ay_newint (hd : decode b pc = .ok (.newarray .int, 2)) (e : pc + 2 = pc') : ab_X rom K b cn rt pc ls (.int x :: st) hp = if ¬ x < 0 ∧ x.toNatClampNeg ≤ 1000 ∧ hp.length < ab_RO then ab_X rom K b cn rt pc' ls (.ref hp.length :: st) (hp ++ [.inl (0, List.replicate x.toNatClampNeg 0)]) else none := by
  by_cases h : ¬ x < 0 ∧ x.toNatClampNeg ≤ 1000 ∧ hp.length < ab_RO
  · rw [if_pos h, ax_newint hd e h.1 h.2.1 h.2.2]
  · rw [if_neg h, ab_X_step hd]
    simp only [ab_s, ab_na, if_true]
    rw [if_neg h]
    rfl
theorem ay_newbool (hd : decode b pc = .ok (.newarray .boolean, 2)) (e : pc + 2 = pc') : ab_X rom K b cn rt pc ls (.int x :: st) hp = if ¬ x < 0 ∧ x.toNatClampNeg ≤ 1000 ∧ hp.length < ab_RO then ab_X rom K b cn rt pc' ls (.ref hp.length :: st) (hp ++ [.inl (1, List.replicate x.toNatClampNeg 0)]) else none := by
  by_cases h : ¬ x < 0 ∧ x.toNatClampNeg ≤ 1000 ∧ hp.length < ab_RO
  · rw [if_pos h, ax_newbool hd e h.1 h.2.1 h.2.2]
  · rw [if_neg h, ab_X_step hd]
    simp only [ab_s, ab_na, if_true]
    rw [if_neg h]
    rfl
end ABR3
