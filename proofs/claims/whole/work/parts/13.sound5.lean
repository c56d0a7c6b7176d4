section ABY
variable {Sx : ab_SX} {p : Program} {l : Launch} {e : Env} {R : Room} {s : State} {m : MethodId} {args : Array Value} {below : List Frame} {meth : Method} {c : Code} {Q : State → Prop}
variable {cc : ByteArray} {cn rt nL c0 z0 : Nat} {D : va_G} {cy : Nat → ClassId} {B : Nat} {rv : Nat → Nat} {rom : List (List Int32)} {hp hp' : ab_H} {i : Instr} {len pc pc' : Nat} {ls st ls' st' : List Value}
set_option maxHeartbeats 4000000 in
/-- Object's constructor, max, min, abs, arraycopy -/
theorem ab_k3 (hX : ab_SxOK Sx) (X : ab_Cx Sx p R s m args meth c cc cn rt nL c0 D cy B rv rom) (hd : decode cc pc = .ok (i, len)) (hs : ab_s rom cn rt i len pc ls st hp = some (.inl (pc', ls', st', hp'))) (hi : ab_kd i = 3)
    (hr : hp'.length ≤ R.cells + c0) (hz : ab_szs hp' ≤ R.slots + z0)
    (k : ab_Go p l e R s m args below meth c Q D cy B rv nL c0 z0 pc' ls' st' hp') : ab_Go p l e R s m args below meth c Q D cy B rv nL c0 z0 pc ls st hp := by
  have hcall : ∃ ivk k0, len = 3 ∧ ab_call ivk (ab_lk ab_cT cn k0) pc ls st hp = some (.inl (pc', ls', st', hp')) ∧ ((ivk = 0 ∧ i = .invokevirtual k0) ∨ (ivk = 1 ∧ i = .invokestatic k0) ∨ (ivk = 2 ∧ i = .invokespecial k0)) := by
    have zl := hs
    cases i
    case invokevirtual k0 =>
      simp only [ab_s] at zl
      exact ⟨0, k0, (ab_if zl).1, (ab_if zl).2, Or.inl ⟨rfl, rfl⟩⟩
    case invokestatic k0 =>
      simp only [ab_s] at zl
      exact ⟨1, k0, (ab_if zl).1, (ab_if zl).2, Or.inr (Or.inl ⟨rfl, rfl⟩)⟩
    case invokespecial k0 =>
      simp only [ab_s] at zl
      exact ⟨2, k0, (ab_if zl).1, (ab_if zl).2, Or.inr (Or.inr ⟨rfl, rfl⟩)⟩
    all_goals (simp [ab_kd] at hi; done)
  clear hs
  obtain ⟨ivk, k0, hlen, hs, hiv⟩ := hcall
  subst hlen
  obtain ⟨hx, hb, hml, hown, hts, hin, hK, hro, hsz, hfr, hlo⟩ := X
  obtain ⟨kd, mid2, n, ci, hF, hs⟩ := ab_call_inv hs
  obtain ⟨hcw, -⟩ := ab_c_ok hF
  have hst9 : ivk = 1 → i = .invokestatic k0 := by
    intro e9
    subst e9
    rcases hiv with ⟨zq, _⟩ | ⟨_, zq⟩ | ⟨zq, _⟩
    · cases zq
    · exact zq
    · cases zq
  have hsp9 : ivk = 2 → i = .invokespecial k0 := by
    intro e9
    subst e9
    rcases hiv with ⟨zq, _⟩ | ⟨zq, _⟩ | ⟨_, zq⟩
    · cases zq
    · cases zq
    · exact zq
  rcases hs with zs | zs | zs | zs | zs | zs | zs | zs
  · obtain ⟨-, -, -, -, e3⟩ := zs; cases e3
  · obtain ⟨-, _, _, _, -, -, -, -, e3⟩ := zs; cases e3
  · obtain ⟨e1, e2, a, rest2, rfl, hl4, e3⟩ := zs
    cases e3
    subst e1
    have hi9 := hsp9 e2
    subst hi9
    have w1 := hcw (.methodLink (ab_cl cn) k0 objectInit) (by simp [ab_cw])
    have w2 := hcw (.instanceMethod objectInit) (by simp [ab_cw])
    have w3 := hcw (.code objectInit ⟨#[0xb1]⟩ 1 none) (by simp [ab_cw])
    intro H locs cells slots als a1 a2 a3 a4 a5 a6
    have kk := k H locs cells slots als a1 a2 a3 a4 a5 a6
    have hcat := ab_cats (B := B) (rv := rv) _ hl4
    simp only [List.map_cons, ab_v]
    refine W.objInit hx hb hown (hts _ w1) (hts _ w2) (hts _ w3) rfl (by rw [hml]; exact a4.size) rfl hd hfr (by show 2 * 0 + _ + 12 ≤ _; omega) ?_
    exact W.eq rfl kk
  · obtain ⟨e1, e2, x, y, rest2, rfl, hl4, e3⟩ := zs
    cases e3
    subst e1
    have hi9 := hst9 e2
    subst hi9
    have w1 := hcw (.methodLink (ab_cl cn) k0 Lib.Math.max.name) (by simp [ab_cw])
    have w2 := hcw (.static Lib.Math.max.name) (by simp [ab_cw])
    have w3 := hcw (.initialized "java/lang/Math") (by simp [ab_cw])
    have w4 := hcw (.code Lib.Math.max.name Lib.Math.max.code 2 (some .int)) (by simp [ab_cw])
    intro H locs cells slots als a1 a2 a3 a4 a5 a6
    have kk := k H locs cells slots als a1 a2 a3 a4 a5 a6
    have hcat := ab_cats (B := B) (rv := rv) _ hl4
    simp only [List.map_cons, ab_v] at kk ⊢
    exact va_mmax hx hb (by rw [a4.size]; exact hml) hown (hts _ w1) (hts _ w2) (hts _ w3) (hts _ w4) hfr (by omega) (by omega) (by omega) hd kk
  · obtain ⟨e1, e2, x, y, rest2, rfl, hl4, e3⟩ := zs
    cases e3
    subst e1
    have hi9 := hst9 e2
    subst hi9
    have w1 := hcw (.methodLink (ab_cl cn) k0 Lib.Math.min.name) (by simp [ab_cw])
    have w2 := hcw (.static Lib.Math.min.name) (by simp [ab_cw])
    have w3 := hcw (.initialized "java/lang/Math") (by simp [ab_cw])
    have w4 := hcw (.code Lib.Math.min.name Lib.Math.min.code 2 (some .int)) (by simp [ab_cw])
    intro H locs cells slots als a1 a2 a3 a4 a5 a6
    have kk := k H locs cells slots als a1 a2 a3 a4 a5 a6
    have hcat := ab_cats (B := B) (rv := rv) _ hl4
    simp only [List.map_cons, ab_v] at kk ⊢
    exact va_mmin hx hb (by rw [a4.size]; exact hml) hown (hts _ w1) (hts _ w2) (hts _ w3) (hts _ w4) hfr (by omega) (by omega) (by omega) hd kk
  · obtain ⟨e1, e2, x, rest2, rfl, hl4, e3⟩ := zs
    cases e3
    subst e1
    have hi9 := hst9 e2
    subst hi9
    have w1 := hcw (.methodLink (ab_cl cn) k0 Lib.Math.abs.name) (by simp [ab_cw])
    have w2 := hcw (.static Lib.Math.abs.name) (by simp [ab_cw])
    have w3 := hcw (.initialized "java/lang/Math") (by simp [ab_cw])
    have w4 := hcw (.code Lib.Math.abs.name Lib.Math.abs.code 1 (some .int)) (by simp [ab_cw])
    intro H locs cells slots als a1 a2 a3 a4 a5 a6
    have kk := k H locs cells slots als a1 a2 a3 a4 a5 a6
    have hcat := ab_cats (B := B) (rv := rv) _ hl4
    simp only [List.map_cons, ab_v] at kk ⊢
    exact va_mabs hx hb (by rw [a4.size]; exact hml) hown (hts _ w1) (hts _ w2) (hts _ w3) (hts _ w4) hfr (by omega) (by omega) (by omega) hd kk
  · obtain ⟨e1, e2, e3⟩ := zs
    subst e1
    have hi9 := hst9 e2
    subst hi9
    obtain ⟨n2, dp, b, sp, a, st2, xs, ys, rfl, ha, hb9, g1, g2, g3, g4, g5, hl4, e4⟩ := ab_acp_inv e3
    cases e4
    have w1 := hcw (.methodLink (ab_cl cn) k0 arraycopyName) (by simp [ab_cw])
    have w2 := hcw (.native arraycopyName) (by simp [ab_cw])
    have w3 := hcw (.static arraycopyName) (by simp [ab_cw])
    have w4 := hcw (.initialized "java/lang/System") (by simp [ab_cw])
    intro H locs cells slots als a1 a2 a3 a4 a5 a6
    have hcat := ab_cats (B := B) (rv := rv) _ hl4
    simp only [List.map_cons, ab_v]
    rw [ab_ad_lt ha a2, ab_ad_lt hb9 a2]
    have e2 : ab_e B rv cy (.inl (0, ab_cpy xs ys sp.toNatClampNeg dp.toNatClampNeg n2.toNatClampNeg)) = .inl (cy 0, ys.length, .inl (va_cpy (fun j => xs.getD j 0) (fun j => ys.getD j 0) sp.toNatClampNeg dp.toNatClampNeg n2.toNatClampNeg)) := by simp only [ab_e, ab_cpy_len xs ys _ _ _ g4 g5, ab_fcpy xs ys _ _ _ g4 g5]
    refine va_copyi (f := fun j => xs.getD j 0) (g := fun j => ys.getD j 0) (ty := .int) hx hb (by rw [a4.size]; exact hml) hown (hts _ w1) (hts _ w2) (hts _ w3) (hts _ w4) hK a1 ab_wD a3 a b 0 0 (ab_w_at ha) (ab_w_at hb9) rfl rfl rfl g1 g2 g3 g4 g5 (fun _ _ => rfl) hfr ?_ hd (fun H1 locs1 b1 _ b3 => ?_)
    · have : nativeFrameWords "java/lang/System" "arraycopy" 5 = 7 := by decide +kernel
      omega
    · exact k H1 locs1 cells slots als (by rw [← ab_w_set (ab_lt hb9), e2]; exact b1) (by rw [List.length_set]; exact a2) b3 a4 (by rw [List.length_set]; exact a5) (by rw [ab_szs_set hb9 (by simp only [ab_sz]; exact ab_cpy_len xs ys _ _ _ g4 g5)]; exact a6)
  · obtain ⟨-, -, -, _, _, -, -, -, e3⟩ := zs; cases e3
set_option maxHeartbeats 4000000 in
theorem ab_kI (hX : ab_SxOK Sx) (X : ab_Cx Sx p R s m args meth c cc cn rt nL c0 D cy B rv rom) (hd : decode cc pc = .ok (i, len)) (hs : ab_s rom cn rt i len pc ls st hp = some (.inl (pc', ls', st', hp')))
    (hr : hp'.length ≤ R.cells + c0) (hz : ab_szs hp' ≤ R.slots + z0)
    (k : ab_Go p l e R s m args below meth c Q D cy B rv nL c0 z0 pc' ls' st' hp') : ab_Go p l e R s m args below meth c Q D cy B rv nL c0 z0 pc ls st hp := by
  have h3 : ab_kd i = 1 ∨ ab_kd i = 2 ∨ ab_kd i = 3 := by cases i <;> simp [ab_kd]
  rcases h3 with h | h | h
  · exact ab_k1 hX X hd hs h k
  · exact ab_k2 hX X hd hs h hr hz k
  · exact ab_k3 hX X hd hs h hr hz k
theorem ab_call_nr {ivk : Nat} {F : Option (Nat × Nat × Nat × Nat)} {o : ab_O} : ¬ ab_call ivk F pc ls st hp = some (.inr (.inl o)) := by
  intro zs
  obtain ⟨kd, mid, n, ci, -, zs⟩ := ab_call_inv zs
  rcases zs with h | h | h | h | h | h | h | h
  · obtain ⟨-, -, -, -, zz⟩ := h; cases zz
  · obtain ⟨-, _, _, _, -, -, -, -, zz⟩ := h; cases zz
  · obtain ⟨-, -, _, _, -, -, zz⟩ := h; cases zz
  · obtain ⟨-, -, _, _, _, -, -, zz⟩ := h; cases zz
  · obtain ⟨-, -, _, _, _, -, -, zz⟩ := h; cases zz
  · obtain ⟨-, -, _, _, -, -, zz⟩ := h; cases zz
  · obtain ⟨-, -, h⟩ := h
    obtain ⟨_, _, _, _, _, _, _, _, -, -, -, -, -, -, -, -, -, zz⟩ := ab_acp_inv h
    cases zz
  · obtain ⟨-, -, -, _, _, -, -, -, zz⟩ := h; cases zz
set_option maxHeartbeats 4000000 in
/-- returns -/
theorem ab_ret_inv {o : ab_O} (hs : ab_s rom cn rt i len pc ls st hp = some (.inr (.inl o))) : (i = .ireturn ∧ len = 1 ∧ ∃ v, st = [.int v] ∧ (rt = 1 ∨ (rt = 2 ∧ (v = 0 ∨ v = 1))) ∧ o = (some (.int v), hp)) ∨ (i = .return_ ∧ len = 1 ∧ st = [] ∧ (rt = 0 ∨ rt = 3) ∧ o = (none, hp)) := by
  cases i
  case ireturn =>
    simp only [ab_s] at hs
    obtain ⟨h1, zl⟩ := ab_if hs
    split at zl
    · obtain ⟨h2, zm⟩ := ab_if zl
      cases zm
      exact Or.inl ⟨rfl, h1, _, rfl, h2, rfl⟩
    · cases zl
  case return_ =>
    simp only [ab_s] at hs
    obtain ⟨h1, zl⟩ := ab_if hs
    split at zl
    · obtain ⟨h2, zm⟩ := ab_if zl
      cases zm
      exact Or.inr ⟨rfl, h1, rfl, h2, rfl⟩
    · cases zl
  case invokevirtual k0 => simp only [ab_s] at hs; obtain ⟨_, zl⟩ := ab_if hs; exact absurd zl ab_call_nr
  case invokestatic k0 => simp only [ab_s] at hs; obtain ⟨_, zl⟩ := ab_if hs; exact absurd zl ab_call_nr
  case invokespecial k0 => simp only [ab_s] at hs; obtain ⟨_, zl⟩ := ab_if hs; exact absurd zl ab_call_nr
  case iload k0 => simp only [ab_s] at hs; obtain ⟨_, zl⟩ := ab_if hs; obtain ⟨_, _, zz⟩ := ab_ild_inv zl; cases zz
  case iload_n k0 => simp only [ab_s] at hs; obtain ⟨_, zl⟩ := ab_if hs; obtain ⟨_, _, zz⟩ := ab_ild_inv zl; cases zz
  case aload k0 => simp only [ab_s] at hs; obtain ⟨_, zl⟩ := ab_if hs; obtain ⟨_, _, zz⟩ := ab_ald_inv zl; cases zz
  case aload_n k0 => simp only [ab_s] at hs; obtain ⟨_, zl⟩ := ab_if hs; obtain ⟨_, _, zz⟩ := ab_ald_inv zl; cases zz
  case lload k0 => simp only [ab_s] at hs; obtain ⟨_, zl⟩ := ab_if hs; obtain ⟨_, _, zz⟩ := ab_lld_inv zl; cases zz
  case lload_n k0 => simp only [ab_s] at hs; obtain ⟨_, zl⟩ := ab_if hs; obtain ⟨_, _, zz⟩ := ab_lld_inv zl; cases zz
  case istore k0 => simp only [ab_s] at hs; obtain ⟨_, zl⟩ := ab_if hs; obtain ⟨_, _, _, _, _, zz⟩ := ab_ist_inv zl; cases zz
  case istore_n k0 => simp only [ab_s] at hs; obtain ⟨_, zl⟩ := ab_if hs; obtain ⟨_, _, _, _, _, zz⟩ := ab_ist_inv zl; cases zz
  case astore k0 => simp only [ab_s] at hs; obtain ⟨_, zl⟩ := ab_if hs; obtain ⟨_, _, _, _, _, zz⟩ := ab_ast_inv zl; cases zz
  case astore_n k0 => simp only [ab_s] at hs; obtain ⟨_, zl⟩ := ab_if hs; obtain ⟨_, _, _, _, _, zz⟩ := ab_ast_inv zl; cases zz
  case iinc k0 n => simp only [ab_s] at hs; obtain ⟨_, zl⟩ := ab_if hs; obtain ⟨_, _, _, _, zz⟩ := ab_inc_inv zl; cases zz
  case iconst n => simp only [ab_s, ab_go] at hs; obtain ⟨_, zl⟩ := ab_if hs; cases zl
  case bipush n => simp only [ab_s, ab_go] at hs; obtain ⟨_, zl⟩ := ab_if hs; cases zl
  case sipush n => simp only [ab_s, ab_go] at hs; obtain ⟨_, zl⟩ := ab_if hs; cases zl
  case lconst n => simp only [ab_s, ab_go] at hs; obtain ⟨_, zl⟩ := ab_if hs; cases zl
  case ldc k0 =>
    simp only [ab_s, ab_go] at hs
    obtain ⟨_, zl⟩ := ab_if hs
    split at zl
    · cases zl
    · split at zl <;> cases zl
  case ldc_w k0 =>
    simp only [ab_s, ab_go] at hs
    obtain ⟨_, zl⟩ := ab_if hs
    split at zl <;> cases zl
  case ldc2_w k0 =>
    simp only [ab_s, ab_go] at hs
    obtain ⟨_, zl⟩ := ab_if hs
    split at zl <;> cases zl
  case i2l =>
    simp only [ab_s, ab_go] at hs
    obtain ⟨_, zl⟩ := ab_if hs
    split at zl <;> cases zl
  case lcmp =>
    simp only [ab_s, ab_go] at hs
    obtain ⟨_, zl⟩ := ab_if hs
    split at zl <;> cases zl
  case ineg =>
    simp only [ab_s, ab_go] at hs
    obtain ⟨_, zl⟩ := ab_if hs
    split at zl <;> cases zl
  case dup =>
    simp only [ab_s, ab_go] at hs
    obtain ⟨_, zl⟩ := ab_if hs
    split at zl
    · obtain ⟨_, zm⟩ := ab_if zl
      cases zm
    · cases zl
  case dup2 =>
    simp only [ab_s, ab_go] at hs
    obtain ⟨_, zl⟩ := ab_if hs
    split at zl
    · obtain ⟨_, zm⟩ := ab_if zl
      cases zm
    · cases zl
  case iadd => simp only [ab_s] at hs; obtain ⟨_, zl⟩ := ab_if hs; obtain ⟨_, _, _, _, _, _, zz⟩ := ab_bin_inv zl; cases zz
  case isub => simp only [ab_s] at hs; obtain ⟨_, zl⟩ := ab_if hs; obtain ⟨_, _, _, _, _, _, zz⟩ := ab_bin_inv zl; cases zz
  case imul => simp only [ab_s] at hs; obtain ⟨_, zl⟩ := ab_if hs; obtain ⟨_, _, _, _, _, _, zz⟩ := ab_bin_inv zl; cases zz
  case idiv => simp only [ab_s] at hs; obtain ⟨_, zl⟩ := ab_if hs; obtain ⟨_, _, _, _, _, _, zz⟩ := ab_bin_inv zl; cases zz
  case irem => simp only [ab_s] at hs; obtain ⟨_, zl⟩ := ab_if hs; obtain ⟨_, _, _, _, _, _, zz⟩ := ab_bin_inv zl; cases zz
  case iand => simp only [ab_s] at hs; obtain ⟨_, zl⟩ := ab_if hs; obtain ⟨_, _, _, _, _, _, zz⟩ := ab_bin_inv zl; cases zz
  case ior => simp only [ab_s] at hs; obtain ⟨_, zl⟩ := ab_if hs; obtain ⟨_, _, _, _, _, _, zz⟩ := ab_bin_inv zl; cases zz
  case ixor => simp only [ab_s] at hs; obtain ⟨_, zl⟩ := ab_if hs; obtain ⟨_, _, _, _, _, _, zz⟩ := ab_bin_inv zl; cases zz
  case ishl => simp only [ab_s] at hs; obtain ⟨_, zl⟩ := ab_if hs; obtain ⟨_, _, _, _, _, _, zz⟩ := ab_bin_inv zl; cases zz
  case ishr => simp only [ab_s] at hs; obtain ⟨_, zl⟩ := ab_if hs; obtain ⟨_, _, _, _, _, _, zz⟩ := ab_bin_inv zl; cases zz
  case iushr => simp only [ab_s] at hs; obtain ⟨_, zl⟩ := ab_if hs; obtain ⟨_, _, _, _, _, _, zz⟩ := ab_bin_inv zl; cases zz
  case goto off => simp only [ab_s] at hs; obtain ⟨_, zl⟩ := ab_if hs; obtain ⟨_, _, zz⟩ := ab_jmp_inv zl; cases zz
  case if_icmp q off =>
    simp only [ab_s] at hs
    obtain ⟨_, zl⟩ := ab_if hs
    split at zl
    · obtain ⟨tgt, _, zm⟩ := ab_br_inv zl
      rcases zm with ⟨_, zz⟩ | ⟨_, zz⟩ <;> cases zz
    · cases zl
  case ifCond q off =>
    simp only [ab_s] at hs
    obtain ⟨_, zl⟩ := ab_if hs
    split at zl
    · obtain ⟨tgt, _, zm⟩ := ab_br_inv zl
      rcases zm with ⟨_, zz⟩ | ⟨_, zz⟩ <;> cases zz
    · cases zl
  case tableswitch dflt lo hi2 offs =>
    simp only [ab_s] at hs
    split at hs
    · split at hs
      · obtain ⟨_, _, zz⟩ := ab_jmp_inv hs
        cases zz
      · split at hs
        · obtain ⟨_, _, zz⟩ := ab_jmp_inv hs
          cases zz
        · cases hs
    · cases hs
  case getfield k0 => simp only [ab_s] at hs; obtain ⟨_, zl⟩ := ab_if hs; obtain ⟨_, _, _, _, _, _, _, _, _, _, _, _, zz⟩ := ab_gf_inv zl; cases zz
  case putfield k0 => simp only [ab_s] at hs; obtain ⟨_, zl⟩ := ab_if hs; obtain ⟨_, _, _, _, _, _, _, _, _, _, _, _, _, _, zz⟩ := ab_pf_inv zl; cases zz
  case getstatic k0 =>
    simp only [ab_s, ab_go] at hs
    obtain ⟨_, zl⟩ := ab_if hs
    split at zl <;> cases zl
  case iaload => simp only [ab_s] at hs; obtain ⟨_, zl⟩ := ab_if hs; obtain ⟨_, _, _, _, _, _, _, _, _, zz⟩ := ab_xld_inv zl; cases zz
  case baload => simp only [ab_s] at hs; obtain ⟨_, zl⟩ := ab_if hs; obtain ⟨_, _, _, _, _, _, _, _, _, zz⟩ := ab_xld_inv zl; cases zz
  case iastore => simp only [ab_s] at hs; obtain ⟨_, zl⟩ := ab_if hs; obtain ⟨_, _, _, _, _, _, _, _, _, _, zz⟩ := ab_xst_inv zl; cases zz
  case bastore => simp only [ab_s] at hs; obtain ⟨_, zl⟩ := ab_if hs; obtain ⟨_, _, _, _, _, _, _, _, _, _, zz⟩ := ab_xst_inv zl; cases zz
  case aaload => simp only [ab_s] at hs; obtain ⟨_, zl⟩ := ab_if hs; obtain ⟨_, _, _, _, _, _, _, _, _, zz⟩ := ab_rld_inv zl; cases zz
  case aastore => simp only [ab_s] at hs; obtain ⟨_, zl⟩ := ab_if hs; obtain ⟨_, _, _, _, _, _, _, _, _, _, _, zz⟩ := ab_rst_inv zl; cases zz
  case arraylength => simp only [ab_s] at hs; obtain ⟨_, zl⟩ := ab_if hs; obtain ⟨_, _, _, _, _, zz⟩ := ab_len_inv zl; cases zz
  case newarray t =>
    simp only [ab_s] at hs
    obtain ⟨_, zl⟩ := ab_if hs
    split at zl
    · obtain ⟨_, _, _, _, _, _, zz⟩ := ab_na_inv zl; cases zz
    · obtain ⟨_, _, _, _, _, _, zz⟩ := ab_na_inv zl; cases zz
    · cases zl
  case anewarray k0 => simp only [ab_s] at hs; obtain ⟨_, zl⟩ := ab_if hs; obtain ⟨_, _, _, _, _, _, _, zz⟩ := ab_nr_inv zl; cases zz
  case new k0 => simp only [ab_s] at hs; obtain ⟨_, zl⟩ := ab_if hs; obtain ⟨_, _, _, _, zz⟩ := ab_nw_inv zl; cases zz
  all_goals (simp [ab_s] at hs; done)
end ABY
