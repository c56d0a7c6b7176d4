def ab_le (h h' : ab_H) : Prop := h.length ≤ h'.length ∧ ab_szs h ≤ ab_szs h'
theorem ab_le_rfl {h : ab_H} : ab_le h h := ⟨Nat.le_refl _, Nat.le_refl _⟩
theorem ab_le.trans {a b c : ab_H} (h1 : ab_le a b) (h2 : ab_le b c) : ab_le a c := ⟨Nat.le_trans h1.1 h2.1, Nat.le_trans h1.2 h2.2⟩
theorem ab_le_set {hp : ab_H} {k : Nat} {q q' : ab_C} (h : hp[k]? = some q) (hs : ab_sz q' = ab_sz q) : ab_le hp (hp.set k q') := ⟨by rw [List.length_set]; exact Nat.le_refl _, by rw [ab_szs_set h hs]; exact Nat.le_refl _⟩
theorem ab_le_app {hp : ab_H} {q : ab_C} : ab_le hp (hp ++ [q]) := ⟨by rw [List.length_append]; omega, by rw [ab_szs_app]; omega⟩
/-- what a step leaves of the cells -/
def ab_hl (hp : ab_H) (r : ab_R) : Prop := match r with
  | .inl q => ab_le hp q.2.2.2
  | .inr (.inl o) => o.2 = hp
  | .inr (.inr q) => q.2.2.2.2.2 = hp
theorem ab_hl_acp {pc : Nat} {ls st : List Value} {hp : ab_H} {r : ab_R} (h : ab_acp pc ls st hp = some r) : ab_hl hp r := by
  obtain ⟨n, dp, b, sp, a, st2, xs, ys, -, -, hb, -, -, -, h4, h5, -, rfl⟩ := ab_acp_inv h
  exact ab_le_set hb (by simp only [ab_sz]; exact ab_cpy_len xs ys _ _ _ h4 h5)
theorem ab_hl_call {ivk pc : Nat} {F : Option (Nat × Nat × Nat × Nat)} {ls st : List Value} {hp : ab_H} {r : ab_R} (h : ab_call ivk F pc ls st hp = some r) : ab_hl hp r := by
  obtain ⟨kd, mid, n, ci, -, h⟩ := ab_call_inv h
  rcases h with h | h | h | h | h | h | h | h
  · obtain ⟨-, -, -, -, rfl⟩ := h; exact rfl
  · obtain ⟨-, a, rest, fs, -, -, -, -, rfl⟩ := h; exact rfl
  · obtain ⟨-, -, a, rest, -, -, rfl⟩ := h; exact ab_le_rfl
  · obtain ⟨-, -, x, y, rest, -, -, rfl⟩ := h; exact ab_le_rfl
  · obtain ⟨-, -, x, y, rest, -, -, rfl⟩ := h; exact ab_le_rfl
  · obtain ⟨-, -, x, rest, -, -, rfl⟩ := h; exact ab_le_rfl
  · obtain ⟨-, -, h⟩ := h; exact ab_hl_acp h
  · obtain ⟨-, -, -, a, rest, -, -, -, rfl⟩ := h; exact rfl
set_option maxHeartbeats 4000000 in
theorem ab_s_hl {rom : List (List Int32)} {cn rt len pc : Nat} {i : Instr} {ls st : List Value} {hp : ab_H} {r : ab_R} (hs : ab_s rom cn rt i len pc ls st hp = some r) : ab_hl hp r := by
  cases i
  case iload k0 => simp only [ab_s] at hs; obtain ⟨_, hs⟩ := ab_if hs; obtain ⟨_, _, rfl⟩ := ab_ild_inv hs; exact ab_le_rfl
  case iload_n k0 => simp only [ab_s] at hs; obtain ⟨_, hs⟩ := ab_if hs; obtain ⟨_, _, rfl⟩ := ab_ild_inv hs; exact ab_le_rfl
  case aload k0 => simp only [ab_s] at hs; obtain ⟨_, hs⟩ := ab_if hs; obtain ⟨_, _, rfl⟩ := ab_ald_inv hs; exact ab_le_rfl
  case aload_n k0 => simp only [ab_s] at hs; obtain ⟨_, hs⟩ := ab_if hs; obtain ⟨_, _, rfl⟩ := ab_ald_inv hs; exact ab_le_rfl
  case lload k0 => simp only [ab_s] at hs; obtain ⟨_, hs⟩ := ab_if hs; obtain ⟨_, _, rfl⟩ := ab_lld_inv hs; exact ab_le_rfl
  case lload_n k0 => simp only [ab_s] at hs; obtain ⟨_, hs⟩ := ab_if hs; obtain ⟨_, _, rfl⟩ := ab_lld_inv hs; exact ab_le_rfl
  case istore k0 => simp only [ab_s] at hs; obtain ⟨_, hs⟩ := ab_if hs; obtain ⟨_, _, _, _, _, rfl⟩ := ab_ist_inv hs; exact ab_le_rfl
  case istore_n k0 => simp only [ab_s] at hs; obtain ⟨_, hs⟩ := ab_if hs; obtain ⟨_, _, _, _, _, rfl⟩ := ab_ist_inv hs; exact ab_le_rfl
  case astore k0 => simp only [ab_s] at hs; obtain ⟨_, hs⟩ := ab_if hs; obtain ⟨_, _, _, _, _, rfl⟩ := ab_ast_inv hs; exact ab_le_rfl
  case astore_n k0 => simp only [ab_s] at hs; obtain ⟨_, hs⟩ := ab_if hs; obtain ⟨_, _, _, _, _, rfl⟩ := ab_ast_inv hs; exact ab_le_rfl
  case iinc k0 n => simp only [ab_s] at hs; obtain ⟨_, hs⟩ := ab_if hs; obtain ⟨_, _, _, _, rfl⟩ := ab_inc_inv hs; exact ab_le_rfl
  case iconst n => simp only [ab_s, ab_go] at hs; obtain ⟨_, hs⟩ := ab_if hs; cases hs; exact ab_le_rfl
  case bipush n => simp only [ab_s, ab_go] at hs; obtain ⟨_, hs⟩ := ab_if hs; cases hs; exact ab_le_rfl
  case sipush n => simp only [ab_s, ab_go] at hs; obtain ⟨_, hs⟩ := ab_if hs; cases hs; exact ab_le_rfl
  case lconst n => simp only [ab_s, ab_go] at hs; obtain ⟨_, hs⟩ := ab_if hs; cases hs; exact ab_le_rfl
  case ldc k0 =>
    simp only [ab_s, ab_go] at hs
    obtain ⟨_, hs⟩ := ab_if hs
    split at hs
    · cases hs; exact ab_le_rfl
    · split at hs <;> cases hs
      exact ab_le_rfl
  case ldc_w k0 =>
    simp only [ab_s, ab_go] at hs
    obtain ⟨_, hs⟩ := ab_if hs
    split at hs <;> cases hs
    exact ab_le_rfl
  case ldc2_w k0 =>
    simp only [ab_s, ab_go] at hs
    obtain ⟨_, hs⟩ := ab_if hs
    split at hs <;> cases hs
    exact ab_le_rfl
  case i2l =>
    simp only [ab_s, ab_go] at hs
    obtain ⟨_, hs⟩ := ab_if hs
    split at hs <;> cases hs
    exact ab_le_rfl
  case lcmp =>
    simp only [ab_s, ab_go] at hs
    obtain ⟨_, hs⟩ := ab_if hs
    split at hs <;> cases hs
    exact ab_le_rfl
  case ineg =>
    simp only [ab_s, ab_go] at hs
    obtain ⟨_, hs⟩ := ab_if hs
    split at hs <;> cases hs
    exact ab_le_rfl
  case dup =>
    simp only [ab_s, ab_go] at hs
    obtain ⟨_, hs⟩ := ab_if hs
    split at hs
    · obtain ⟨_, hs⟩ := ab_if hs
      cases hs
      exact ab_le_rfl
    · cases hs
  case dup2 =>
    simp only [ab_s, ab_go] at hs
    obtain ⟨_, hs⟩ := ab_if hs
    split at hs
    · obtain ⟨_, hs⟩ := ab_if hs
      cases hs
      exact ab_le_rfl
    · cases hs
  case iadd => simp only [ab_s] at hs; obtain ⟨_, hs⟩ := ab_if hs; obtain ⟨_, _, _, _, _, _, rfl⟩ := ab_bin_inv hs; exact ab_le_rfl
  case isub => simp only [ab_s] at hs; obtain ⟨_, hs⟩ := ab_if hs; obtain ⟨_, _, _, _, _, _, rfl⟩ := ab_bin_inv hs; exact ab_le_rfl
  case imul => simp only [ab_s] at hs; obtain ⟨_, hs⟩ := ab_if hs; obtain ⟨_, _, _, _, _, _, rfl⟩ := ab_bin_inv hs; exact ab_le_rfl
  case idiv => simp only [ab_s] at hs; obtain ⟨_, hs⟩ := ab_if hs; obtain ⟨_, _, _, _, _, _, rfl⟩ := ab_bin_inv hs; exact ab_le_rfl
  case irem => simp only [ab_s] at hs; obtain ⟨_, hs⟩ := ab_if hs; obtain ⟨_, _, _, _, _, _, rfl⟩ := ab_bin_inv hs; exact ab_le_rfl
  case iand => simp only [ab_s] at hs; obtain ⟨_, hs⟩ := ab_if hs; obtain ⟨_, _, _, _, _, _, rfl⟩ := ab_bin_inv hs; exact ab_le_rfl
  case ior => simp only [ab_s] at hs; obtain ⟨_, hs⟩ := ab_if hs; obtain ⟨_, _, _, _, _, _, rfl⟩ := ab_bin_inv hs; exact ab_le_rfl
  case ixor => simp only [ab_s] at hs; obtain ⟨_, hs⟩ := ab_if hs; obtain ⟨_, _, _, _, _, _, rfl⟩ := ab_bin_inv hs; exact ab_le_rfl
  case ishl => simp only [ab_s] at hs; obtain ⟨_, hs⟩ := ab_if hs; obtain ⟨_, _, _, _, _, _, rfl⟩ := ab_bin_inv hs; exact ab_le_rfl
  case ishr => simp only [ab_s] at hs; obtain ⟨_, hs⟩ := ab_if hs; obtain ⟨_, _, _, _, _, _, rfl⟩ := ab_bin_inv hs; exact ab_le_rfl
  case iushr => simp only [ab_s] at hs; obtain ⟨_, hs⟩ := ab_if hs; obtain ⟨_, _, _, _, _, _, rfl⟩ := ab_bin_inv hs; exact ab_le_rfl
  case goto off => simp only [ab_s] at hs; obtain ⟨_, hs⟩ := ab_if hs; obtain ⟨_, _, rfl⟩ := ab_jmp_inv hs; exact ab_le_rfl
  case if_icmp q off =>
    simp only [ab_s] at hs
    obtain ⟨_, hs⟩ := ab_if hs
    split at hs
    · obtain ⟨tgt, _, hs⟩ := ab_br_inv hs
      rcases hs with ⟨_, rfl⟩ | ⟨_, rfl⟩ <;> exact ab_le_rfl
    · cases hs
  case ifCond q off =>
    simp only [ab_s] at hs
    obtain ⟨_, hs⟩ := ab_if hs
    split at hs
    · obtain ⟨tgt, _, hs⟩ := ab_br_inv hs
      rcases hs with ⟨_, rfl⟩ | ⟨_, rfl⟩ <;> exact ab_le_rfl
    · cases hs
  case tableswitch dflt lo hi2 offs =>
    simp only [ab_s] at hs
    split at hs
    · split at hs
      · obtain ⟨_, _, rfl⟩ := ab_jmp_inv hs
        exact ab_le_rfl
      · split at hs
        · obtain ⟨_, _, rfl⟩ := ab_jmp_inv hs
          exact ab_le_rfl
        · cases hs
    · cases hs
  case getfield k0 => simp only [ab_s] at hs; obtain ⟨_, hs⟩ := ab_if hs; obtain ⟨_, _, _, _, _, _, _, _, _, _, _, _, rfl⟩ := ab_gf_inv hs; exact ab_le_rfl
  case putfield k0 => simp only [ab_s] at hs; obtain ⟨_, hs⟩ := ab_if hs; obtain ⟨_, _, _, _, _, _, _, _, _, _, ha, _, _, _, rfl⟩ := ab_pf_inv hs; exact ab_le_set ha (by simp [ab_sz])
  case getstatic k0 =>
    simp only [ab_s, ab_go] at hs
    obtain ⟨_, hs⟩ := ab_if hs
    split at hs <;> cases hs
    exact ab_le_rfl
  case iaload => simp only [ab_s] at hs; obtain ⟨_, hs⟩ := ab_if hs; obtain ⟨_, _, _, _, _, _, _, _, _, rfl⟩ := ab_xld_inv hs; exact ab_le_rfl
  case baload => simp only [ab_s] at hs; obtain ⟨_, hs⟩ := ab_if hs; obtain ⟨_, _, _, _, _, _, _, _, _, rfl⟩ := ab_xld_inv hs; exact ab_le_rfl
  case iastore => simp only [ab_s] at hs; obtain ⟨_, hs⟩ := ab_if hs; obtain ⟨_, _, _, _, _, _, ha, _, _, _, rfl⟩ := ab_xst_inv hs; exact ab_le_set ha (by simp [ab_sz])
  case bastore => simp only [ab_s] at hs; obtain ⟨_, hs⟩ := ab_if hs; obtain ⟨_, _, _, _, _, _, ha, _, _, _, rfl⟩ := ab_xst_inv hs; exact ab_le_set ha (by simp [ab_sz])
  case aaload => simp only [ab_s] at hs; obtain ⟨_, hs⟩ := ab_if hs; obtain ⟨_, _, _, _, _, _, _, _, _, rfl⟩ := ab_rld_inv hs; exact ab_le_rfl
  case aastore => simp only [ab_s] at hs; obtain ⟨_, hs⟩ := ab_if hs; obtain ⟨_, _, _, _, _, _, _, ha, _, _, _, rfl⟩ := ab_rst_inv hs; exact ab_le_set ha (by simp [ab_sz])
  case arraylength => simp only [ab_s] at hs; obtain ⟨_, hs⟩ := ab_if hs; obtain ⟨_, _, _, _, _, rfl⟩ := ab_len_inv hs; exact ab_le_rfl
  case newarray t =>
    simp only [ab_s] at hs
    obtain ⟨_, hs⟩ := ab_if hs
    split at hs
    · obtain ⟨_, _, _, _, _, _, rfl⟩ := ab_na_inv hs; exact ab_le_app
    · obtain ⟨_, _, _, _, _, _, rfl⟩ := ab_na_inv hs; exact ab_le_app
    · cases hs
  case anewarray k0 => simp only [ab_s] at hs; obtain ⟨_, hs⟩ := ab_if hs; obtain ⟨_, _, _, _, _, _, _, rfl⟩ := ab_nr_inv hs; exact ab_le_app
  case new k0 => simp only [ab_s] at hs; obtain ⟨_, hs⟩ := ab_if hs; obtain ⟨_, _, _, _, rfl⟩ := ab_nw_inv hs; exact ab_le_app
  case invokevirtual k0 => simp only [ab_s] at hs; obtain ⟨_, hs⟩ := ab_if hs; exact ab_hl_call hs
  case invokestatic k0 => simp only [ab_s] at hs; obtain ⟨_, hs⟩ := ab_if hs; exact ab_hl_call hs
  case invokespecial k0 => simp only [ab_s] at hs; obtain ⟨_, hs⟩ := ab_if hs; exact ab_hl_call hs
  case ireturn =>
    simp only [ab_s] at hs
    obtain ⟨_, hs⟩ := ab_if hs
    split at hs
    · obtain ⟨_, hs⟩ := ab_if hs
      cases hs
      exact rfl
    · cases hs
  case return_ =>
    simp only [ab_s] at hs
    obtain ⟨_, hs⟩ := ab_if hs
    split at hs
    · obtain ⟨_, hs⟩ := ab_if hs
      cases hs
      exact rfl
    · cases hs
  all_goals (simp [ab_s] at hs; done)
/-- the cells only grow -/
theorem ab_ex_le2 {rom : List (List Int32)} {K : Nat → List Value → ab_H → Option ab_O} (hK : ∀ mid as hp v hp2, K mid as hp = some (v, hp2) → ab_le hp hp2) {b : ByteArray} {cn rt : Nat} : ∀ {n pc : Nat} {ls st : List Value} {hp : ab_H} {o : ab_O}, ab_ex rom K b cn rt n pc ls st hp = some o → ab_le hp o.2
  | 0, _, _, _, _, _, h => by cases h
  | n + 1, pc, ls, st, hp, o, h => by
    unfold ab_ex at h
    cases hd : decode b pc with
    | error _ => rw [hd] at h; cases h
    | ok q =>
      rw [hd] at h
      obtain ⟨i, len⟩ := q
      simp only at h
      cases hs : ab_s rom cn rt i len pc ls st hp with
      | none => rw [hs] at h; cases h
      | some r =>
        rw [hs] at h
        have hl := ab_s_hl hs
        match r, h, hl with
        | .inl (pc2, ls2, st2, hp2), h, hl => exact ab_le.trans hl (ab_ex_le2 hK h)
        | .inr (.inl o2), h, hl =>
          cases h
          have e : o.2 = hp := hl
          rw [e]
          exact ab_le_rfl
        | .inr (.inr (mid, as, pc2, ls2, rest, hp2)), h, hl =>
          have e : hp2 = hp := hl
          subst e
          simp only [ab_next] at h
          cases hk : K mid as hp2 with
          | none => rw [hk] at h; cases h
          | some q => rw [hk] at h; exact ab_le.trans (hK _ _ _ _ _ hk) (ab_ex_le2 hK h)
