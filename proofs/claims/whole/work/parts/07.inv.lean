/-! what a step of the small machine asks -/
theorem ab_if {α : Type} {q : Prop} {hq : Decidable q} {a : Option α} {r : α} (h : (if q then a else none) = some r) : q ∧ a = some r := by
  split at h
  · exact ⟨‹_›, h⟩
  · cases h
section ABI
variable {ls st : List Value} {hp : ab_H} {k pc : Nat} {r : ab_R}
theorem ab_ild_inv (h : ab_ild ls k pc st hp = some r) : ∃ x, ls[k]? = some (.int x) ∧ r = .inl (pc, ls, .int x :: st, hp) := by
  unfold ab_ild at h
  split at h
  · cases h; exact ⟨_, ‹_›, rfl⟩
  · cases h
theorem ab_ald_inv (h : ab_ald ls k pc st hp = some r) : ∃ x, ls[k]? = some (.ref x) ∧ r = .inl (pc, ls, .ref x :: st, hp) := by
  unfold ab_ald at h
  split at h
  · cases h; exact ⟨_, ‹_›, rfl⟩
  · cases h
theorem ab_lld_inv (h : ab_lld ls k pc st hp = some r) : ∃ x, ls[k]? = some (.long x) ∧ r = .inl (pc, ls, .long x :: st, hp) := by
  unfold ab_lld at h
  split at h
  · cases h; exact ⟨_, ‹_›, rfl⟩
  · cases h
theorem ab_ist_inv (h : ab_ist ls k pc st hp = some r) : ∃ x st', st = .int x :: st' ∧ k < ls.length ∧ ab_nl ls k = true ∧ r = .inl (pc, ls.set k (.int x), st', hp) := by
  unfold ab_ist at h
  split at h
  · obtain ⟨h1, h2⟩ := ab_if h
    cases h2
    exact ⟨_, _, rfl, h1.1, h1.2, rfl⟩
  · cases h
theorem ab_ast_inv (h : ab_ast ls k pc st hp = some r) : ∃ x st', st = .ref x :: st' ∧ k < ls.length ∧ ab_nl ls k = true ∧ r = .inl (pc, ls.set k (.ref x), st', hp) := by
  unfold ab_ast at h
  split at h
  · obtain ⟨h1, h2⟩ := ab_if h
    cases h2
    exact ⟨_, _, rfl, h1.1, h1.2, rfl⟩
  · cases h
theorem ab_inc_inv {n : Int} (h : ab_inc ls k pc n st hp = some r) : ∃ x, ls[k]? = some (.int x) ∧ k < ls.length ∧ ab_nl ls k = true ∧ r = .inl (pc, ls.set k (.int (x + Int32.ofInt n)), st, hp) := by
  unfold ab_inc at h
  split at h
  · obtain ⟨h1, h2⟩ := ab_if h
    cases h2
    exact ⟨_, ‹_›, h1.1, h1.2, rfl⟩
  · cases h
theorem ab_bin_inv {f : Int32 → Int32 → Option Int32} (h : ab_bin f pc ls st hp = some r) : ∃ x y v st', st = .int y :: .int x :: st' ∧ f x y = some v ∧ r = .inl (pc + 1, ls, .int v :: st', hp) := by
  unfold ab_bin at h
  split at h
  · split at h
    · cases h; exact ⟨_, _, _, _, rfl, ‹_›, rfl⟩
    · cases h
  · cases h
theorem ab_jmp_inv {off : Int} (h : ab_jmp pc off ls st hp = some r) : ∃ tgt : Nat, (pc : Int) + off = (tgt : Int) ∧ r = .inl (tgt, ls, st, hp) := by
  obtain ⟨h1, h2⟩ := ab_if h
  cases h2
  exact ⟨_, (Int.toNat_of_nonneg h1).symm, rfl⟩
theorem ab_br_inv {b : Bool} {off : Int} (h : ab_br b pc off ls st hp = some r) : ∃ tgt : Nat, (pc : Int) + off = (tgt : Int) ∧ ((b = true ∧ r = .inl (tgt, ls, st, hp)) ∨ (b = false ∧ r = .inl (pc + 3, ls, st, hp))) := by
  obtain ⟨h1, h2⟩ := ab_if h
  refine ⟨_, (Int.toNat_of_nonneg h1).symm, ?_⟩
  split at h2
  · cases h2
    exact Or.inl ⟨‹_›, rfl⟩
  · cases h2
    exact Or.inr ⟨by simpa using ‹¬ b = true›, rfl⟩
theorem ab_gf_inv {F : Option (Nat × Nat × Nat × Nat)} (h : ab_gf F pc ls st hp = some r) : ∃ ci k fin tc a st' fs v, F = some (ci, k, fin, tc) ∧ st = .ref a :: st' ∧ hp[a]? = some (.inr (.inr (ci, fs))) ∧ fs[k]? = some v ∧ r = .inl (pc + 3, ls, v :: st', hp) := by
  unfold ab_gf at h
  split at h
  · split at h
    · split at h
      · obtain ⟨h1, h2⟩ := ab_if h
        subst h1
        split at h2
        · cases h2
          exact ⟨_, _, _, _, _, _, _, _, rfl, rfl, ‹_›, ‹_›, rfl⟩
        · cases h2
      · cases h
    · cases h
  · cases h
theorem ab_pf_inv {cn rt : Nat} {F : Option (Nat × Nat × Nat × Nat)} (h : ab_pf cn rt F pc ls st hp = some r) : ∃ ci k fin tc a st' fs v, F = some (ci, k, fin, tc) ∧ st = v :: .ref a :: st' ∧ hp[a]? = some (.inr (.inr (ci, fs))) ∧ k < fs.length ∧ (fin = 0 ∨ (rt = 3 ∧ cn = ci)) ∧ ab_ft tc v = true ∧ r = .inl (pc + 3, ls, st', hp.set a (.inr (.inr (ci, fs.set k v)))) := by
  unfold ab_pf at h
  split at h
  · split at h
    · split at h
      · obtain ⟨h1, h2⟩ := ab_if h
        obtain ⟨h1, h3, h4, h5⟩ := h1
        subst h1
        cases h2
        exact ⟨_, _, _, _, _, _, _, _, rfl, rfl, ‹_›, h3, h4, h5, rfl⟩
      · cases h
    · cases h
  · cases h
theorem ab_arr_inv {rom : List (List Int32)} {t a : Nat} {xs : List Int32} (h : ab_arr rom t hp a = some xs) : hp[a]? = some (.inl (t, xs)) ∨ (t = 0 ∧ ∃ j, a = ab_RO + j ∧ rom[j]? = some xs) := by
  unfold ab_arr at h
  split at h
  · obtain ⟨h1, h2⟩ := ab_if h
    subst h1
    cases h2
    exact Or.inl ‹_›
  · cases h
  · obtain ⟨h1, h2⟩ := ab_if h
    exact Or.inr ⟨h1.1, a - ab_RO, (Nat.add_sub_cancel' h1.2).symm, h2⟩
theorem ab_in_of {i : Int32} {n : Nat} (h0 : ¬ i < 0) (h1 : i.toNatClampNeg < n) : vp_in i n := fun h => h.elim h0 (fun q => absurd h1 (Nat.not_lt.mpr q))
theorem ab_xld_inv {rom : List (List Int32)} {t : Nat} (h : ab_xld rom t pc ls st hp = some r) : ∃ i a st' xs v, st = .int i :: .ref a :: st' ∧ ab_arr rom t hp a = some xs ∧ ¬ i < 0 ∧ xs[i.toNatClampNeg]? = some v ∧ r = .inl (pc + 1, ls, .int v :: st', hp) := by
  unfold ab_xld at h
  split at h
  · split at h
    · obtain ⟨h1, h2⟩ := ab_if h
      split at h2
      · cases h2
        exact ⟨_, _, _, _, _, rfl, ‹_›, h1, ‹_›, rfl⟩
      · cases h2
    · cases h
  · cases h
theorem ab_xst_inv {t : Nat} (h : ab_xst t pc ls st hp = some r) : ∃ v i a st' xs, st = .int v :: .int i :: .ref a :: st' ∧ hp[a]? = some (.inl (t, xs)) ∧ ¬ i < 0 ∧ i.toNatClampNeg < xs.length ∧ ab_ft t (.int v) = true ∧ r = .inl (pc + 1, ls, st', hp.set a (.inl (t, xs.set i.toNatClampNeg v))) := by
  unfold ab_xst at h
  split at h
  · split at h
    · obtain ⟨h1, h2⟩ := ab_if h
      obtain ⟨h1, h3, h4, h5⟩ := h1
      subst h1
      cases h2
      exact ⟨_, _, _, _, _, rfl, ‹_›, h3, h4, h5, rfl⟩
    · cases h
  · cases h
theorem ab_rld_inv (h : ab_rld pc ls st hp = some r) : ∃ i a st' rs v, st = .int i :: .ref a :: st' ∧ hp[a]? = some (.inr (.inl rs)) ∧ ¬ i < 0 ∧ rs[i.toNatClampNeg]? = some (some v) ∧ r = .inl (pc + 1, ls, .ref v :: st', hp) := by
  unfold ab_rld at h
  split at h
  · split at h
    · obtain ⟨h1, h2⟩ := ab_if h
      split at h2
      · cases h2
        exact ⟨_, _, _, _, _, rfl, ‹_›, h1, ‹_›, rfl⟩
      · cases h2
    · cases h
  · cases h
theorem ab_rst_inv (h : ab_rst pc ls st hp = some r) : ∃ v i a st' rs fs, st = .ref v :: .int i :: .ref a :: st' ∧ hp[a]? = some (.inr (.inl rs)) ∧ hp[v]? = some (.inr (.inr (1, fs))) ∧ ¬ i < 0 ∧ i.toNatClampNeg < rs.length ∧ r = .inl (pc + 1, ls, st', hp.set a (.inr (.inl (rs.set i.toNatClampNeg (some v))))) := by
  unfold ab_rst at h
  split at h
  · split at h
    · obtain ⟨h1, h2⟩ := ab_if h
      cases h2
      exact ⟨_, _, _, _, _, _, rfl, ‹_›, ‹_›, h1.1, h1.2, rfl⟩
    · cases h
  · cases h
theorem ab_len_inv {rom : List (List Int32)} (h : ab_len rom pc ls st hp = some r) : ∃ a st' xs, st = .ref a :: st' ∧ (hp[a]? = some (.inl (0, xs)) ∨ ∃ j, a = ab_RO + j ∧ rom[j]? = some xs) ∧ r = .inl (pc + 1, ls, .int (Int32.ofNat xs.length) :: st', hp) := by
  unfold ab_len at h
  split at h
  · rename_i a st'
    split at h
    · cases h
      exact ⟨_, _, _, rfl, Or.inl ‹_›, rfl⟩
    · cases h
    · obtain ⟨h1, h2⟩ := ab_if h
      split at h2
      · rename_i hr
        cases h2
        exact ⟨a, _, _, rfl, Or.inr ⟨a - ab_RO, (Nat.add_sub_cancel' h1).symm, hr⟩, rfl⟩
      · cases h2
  · cases h
theorem ab_na_inv {t : Nat} (h : ab_na t pc ls st hp = some r) : ∃ n st', st = .int n :: st' ∧ ¬ n < 0 ∧ n.toNatClampNeg ≤ 1000 ∧ hp.length < ab_RO ∧ r = .inl (pc + 2, ls, .ref hp.length :: st', hp ++ [.inl (t, List.replicate n.toNatClampNeg 0)]) := by
  unfold ab_na at h
  split at h
  · obtain ⟨h1, h2⟩ := ab_if h
    cases h2
    exact ⟨_, _, rfl, h1.1, h1.2.1, h1.2.2, rfl⟩
  · cases h
theorem ab_nr_inv {ok : Bool} (h : ab_nr ok pc ls st hp = some r) : ∃ n st', st = .int n :: st' ∧ ok = true ∧ ¬ n < 0 ∧ n.toNatClampNeg ≤ 1000 ∧ hp.length < ab_RO ∧ r = .inl (pc + 3, ls, .ref hp.length :: st', hp ++ [.inr (.inl (List.replicate n.toNatClampNeg none))]) := by
  unfold ab_nr at h
  split at h
  · obtain ⟨h1, h2⟩ := ab_if h
    cases h2
    exact ⟨_, _, rfl, h1.1, h1.2.1, h1.2.2.1, h1.2.2.2, rfl⟩
  · cases h
theorem ab_nw_inv {F : Option (Nat × List Nat)} (h : ab_nw F pc ls st hp = some r) : ∃ ci tcs, F = some (ci, tcs) ∧ hp.length < ab_RO ∧ r = .inl (pc + 3, ls, .ref hp.length :: st, hp ++ [.inr (.inr (ci, tcs.map ab_dv))]) := by
  unfold ab_nw at h
  split at h
  · obtain ⟨h1, h2⟩ := ab_if h
    cases h2
    exact ⟨_, _, rfl, h1, rfl⟩
  · cases h
theorem ab_acp_inv (h : ab_acp pc ls st hp = some r) : ∃ n dp b sp a st' xs ys, st = .int n :: .int dp :: .ref b :: .int sp :: .ref a :: st' ∧ hp[a]? = some (.inl (0, xs)) ∧ hp[b]? = some (.inl (0, ys)) ∧ ¬ sp < 0 ∧ ¬ dp < 0 ∧ ¬ n < 0 ∧ sp.toNatClampNeg + n.toNatClampNeg ≤ xs.length ∧ dp.toNatClampNeg + n.toNatClampNeg ≤ ys.length ∧ st'.length ≤ 4 ∧ r = .inl (pc + 3, ls, st', hp.set b (.inl (0, ab_cpy xs ys sp.toNatClampNeg dp.toNatClampNeg n.toNatClampNeg))) := by
  unfold ab_acp at h
  split at h
  · split at h
    · obtain ⟨h1, h2⟩ := ab_if h
      cases h2
      obtain ⟨a1, a2, a3, a4, a5, a6⟩ := h1
      exact ⟨_, _, _, _, _, _, _, _, rfl, ‹_›, ‹_›, a1, a2, a3, a4, a5, a6, rfl⟩
    · cases h
  · cases h
/-- calls -/
theorem ab_call_inv {ivk : Nat} {F : Option (Nat × Nat × Nat × Nat)} (h : ab_call ivk F pc ls st hp = some r) : ∃ kd mid n ci, F = some (kd, mid, n, ci) ∧
    ((kd = 1 ∧ ivk = 1 ∧ n ≤ st.length ∧ (st.drop n).length ≤ 4 ∧ r = .inr (.inr (mid, (st.take n).reverse, pc + 3, ls, st.drop n, hp))) ∨
     (((kd = 0 ∧ ivk = 0) ∨ ((kd = 2 ∨ kd = 3) ∧ ivk = 2)) ∧ ∃ a rest fs, st.drop n = .ref a :: rest ∧ hp[a]? = some (.inr (.inr (ci, fs))) ∧ n ≤ st.length ∧ rest.length ≤ 4 ∧ r = .inr (.inr (mid, .ref a :: (st.take n).reverse, pc + 3, ls, rest, hp))) ∨
     (kd = 4 ∧ ivk = 2 ∧ ∃ a rest, st = .ref a :: rest ∧ rest.length ≤ 4 ∧ r = .inl (pc + 3, ls, rest, hp)) ∨
     (kd = 5 ∧ ivk = 1 ∧ ∃ x y rest, st = .int y :: .int x :: rest ∧ rest.length ≤ 4 ∧ r = .inl (pc + 3, ls, .int (ab_max x y) :: rest, hp)) ∨
     (kd = 6 ∧ ivk = 1 ∧ ∃ x y rest, st = .int y :: .int x :: rest ∧ rest.length ≤ 4 ∧ r = .inl (pc + 3, ls, .int (ab_min x y) :: rest, hp)) ∨
     (kd = 7 ∧ ivk = 1 ∧ ∃ x rest, st = .int x :: rest ∧ rest.length ≤ 4 ∧ r = .inl (pc + 3, ls, .int (ab_abs x) :: rest, hp)) ∨
     (kd = 8 ∧ ivk = 1 ∧ ab_acp pc ls st hp = some r) ∨
     (kd = 9 ∧ ivk = 0 ∧ 1000 ≤ mid ∧ ∃ a rest, st.drop n = .ref a :: rest ∧ n ≤ st.length ∧ rest.length ≤ 4 ∧ r = .inr (.inr (mid, .ref a :: (st.take n).reverse, pc + 3, ls, rest, hp)))) := by
  unfold ab_call at h
  split at h
  · rename_i kd mid n ci
    refine ⟨kd, mid, n, ci, rfl, ?_⟩
    split at h
    · rename_i hc
      obtain ⟨h1, h2⟩ := ab_if h
      cases h2
      exact Or.inl ⟨hc.1, hc.2, h1.1, h1.2, rfl⟩
    · split at h
      · rename_i hc
        split at h
        · rename_i a rest he
          split at h
          · rename_i c fs hh
            obtain ⟨h1, h2⟩ := ab_if h
            obtain ⟨e, h1, h3⟩ := h1
            subst e
            cases h2
            exact Or.inr (Or.inl ⟨hc, a, rest, fs, he, hh, h1, h3, rfl⟩)
          · cases h
        · cases h
      · split at h
        · rename_i hc
          split at h
          · obtain ⟨h1, h2⟩ := ab_if h
            cases h2
            exact Or.inr (Or.inr (Or.inl ⟨hc.1, hc.2, _, _, rfl, h1, rfl⟩))
          · cases h
        · split at h
          · rename_i hc
            split at h
            · obtain ⟨h1, h2⟩ := ab_if h
              cases h2
              exact Or.inr (Or.inr (Or.inr (Or.inl ⟨hc.1, hc.2, _, _, _, rfl, h1, rfl⟩)))
            · cases h
          · split at h
            · rename_i hc
              split at h
              · obtain ⟨h1, h2⟩ := ab_if h
                cases h2
                exact Or.inr (Or.inr (Or.inr (Or.inr (Or.inl ⟨hc.1, hc.2, _, _, _, rfl, h1, rfl⟩))))
              · cases h
            · split at h
              · rename_i hc
                split at h
                · obtain ⟨h1, h2⟩ := ab_if h
                  cases h2
                  exact Or.inr (Or.inr (Or.inr (Or.inr (Or.inr (Or.inl ⟨hc.1, hc.2, _, _, rfl, h1, rfl⟩)))))
                · cases h
              · split at h
                · rename_i hc
                  exact Or.inr (Or.inr (Or.inr (Or.inr (Or.inr (Or.inr (Or.inl ⟨hc.1, hc.2, h⟩))))))
                · obtain ⟨hc, h⟩ := ab_if h
                  split at h
                  · rename_i a rest he
                    obtain ⟨h1, h2⟩ := ab_if h
                    cases h2
                    exact Or.inr (Or.inr (Or.inr (Or.inr (Or.inr (Or.inr (Or.inr ⟨hc.1, hc.2.1, hc.2.2, a, rest, he, h1.1, h1.2, rfl⟩))))))
                  · cases h
  · cases h
end ABI
