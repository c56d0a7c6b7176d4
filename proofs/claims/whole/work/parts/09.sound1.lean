section ABT
variable {Sx : ab_SX} {p : Program} {l : Launch} {e : Env} {R : Room} {s : State} {m : MethodId} {args : Array Value} {below : List Frame} {meth : Method} {c : Code} {Q : State → Prop}
variable {cc : ByteArray} {cn rt nL c0 z0 : Nat} {D : va_G} {cy : Nat → ClassId} {B : Nat} {rv : Nat → Nat} {rom : List (List Int32)} {hp hp' : ab_H} {i : Instr} {len pc pc' : Nat} {ls st ls' st' : List Value}
set_option maxHeartbeats 4000000 in
/-- numbers, locals, jumps -/
theorem ab_k1 (hX : ab_SxOK Sx) (X : ab_Cx Sx p R s m args meth c cc cn rt nL c0 D cy B rv rom) (hd : decode cc pc = .ok (i, len)) (hs : ab_s rom cn rt i len pc ls st hp = some (.inl (pc', ls', st', hp')))
    (hi : ab_kd i = 1)
    (k : ab_Go p l e R s m args below meth c Q D cy B rv nL c0 z0 pc' ls' st' hp') : ab_Go p l e R s m args below meth c Q D cy B rv nL c0 z0 pc ls st hp := by
  obtain ⟨hx, hb, hml, hown, hts, hin, hK, hro, hsz, hfr, hlo⟩ := X
  cases i
  case iload k0 =>
    simp only [ab_s] at hs
    replace hs := ab_if hs
    obtain ⟨rfl, hs⟩ := hs
    obtain ⟨x, h1, h2⟩ := ab_ild_inv hs
    cases h2
    intro H locs cells slots als a1 a2 a3 a4 a5 a6
    exact lv_iload hx hb hd (a4.at h1 (by simp)) (k H locs cells slots als a1 a2 a3 a4 a5 a6)
  case iload_n k0 =>
    simp only [ab_s] at hs
    replace hs := ab_if hs
    obtain ⟨rfl, hs⟩ := hs
    obtain ⟨x, h1, h2⟩ := ab_ild_inv hs
    cases h2
    intro H locs cells slots als a1 a2 a3 a4 a5 a6
    exact lv_iload_n hx hb hd rfl (a4.at h1 (by simp)) (k H locs cells slots als a1 a2 a3 a4 a5 a6)
  case aload k0 =>
    simp only [ab_s] at hs
    replace hs := ab_if hs
    obtain ⟨rfl, hs⟩ := hs
    obtain ⟨x, h1, h2⟩ := ab_ald_inv hs
    cases h2
    intro H locs cells slots als a1 a2 a3 a4 a5 a6
    exact lv_aload hx hb hd (a4.at h1 (by simp)) (k H locs cells slots als a1 a2 a3 a4 a5 a6)
  case aload_n k0 =>
    simp only [ab_s] at hs
    replace hs := ab_if hs
    obtain ⟨rfl, hs⟩ := hs
    obtain ⟨x, h1, h2⟩ := ab_ald_inv hs
    cases h2
    intro H locs cells slots als a1 a2 a3 a4 a5 a6
    exact lv_aload_n hx hb hd rfl (a4.at h1 (by simp)) (k H locs cells slots als a1 a2 a3 a4 a5 a6)
  case lload k0 =>
    simp only [ab_s] at hs
    replace hs := ab_if hs
    obtain ⟨rfl, hs⟩ := hs
    obtain ⟨x, h1, h2⟩ := ab_lld_inv hs
    cases h2
    intro H locs cells slots als a1 a2 a3 a4 a5 a6
    exact lv_lload hx hb hd (a4.at h1 (by simp)) (k H locs cells slots als a1 a2 a3 a4 a5 a6)
  case lload_n k0 =>
    simp only [ab_s] at hs
    replace hs := ab_if hs
    obtain ⟨rfl, hs⟩ := hs
    obtain ⟨x, h1, h2⟩ := ab_lld_inv hs
    cases h2
    intro H locs cells slots als a1 a2 a3 a4 a5 a6
    exact lv_lload_n hx hb hd rfl (a4.at h1 (by simp)) (k H locs cells slots als a1 a2 a3 a4 a5 a6)
  case istore k0 =>
    simp only [ab_s] at hs
    replace hs := ab_if hs
    obtain ⟨rfl, hs⟩ := hs
    obtain ⟨x, st2, rfl, h1, h2, h3⟩ := ab_ist_inv hs
    cases h3
    intro H locs cells slots als a1 a2 a3 a4 a5 a6
    obtain ⟨hlen, lv, hl, hm⟩ := a4
    exact lv_istore hx hb hd hl (by rw [← hlen]; exact h1) rfl (fun als2 hl2 => k H locs cells slots als2 a1 a2 a3 (ab_rel.put (v := .int x) hlen hm h1 h2 hl2) a5 a6)
  case istore_n k0 =>
    simp only [ab_s] at hs
    replace hs := ab_if hs
    obtain ⟨rfl, hs⟩ := hs
    obtain ⟨x, st2, rfl, h1, h2, h3⟩ := ab_ist_inv hs
    cases h3
    intro H locs cells slots als a1 a2 a3 a4 a5 a6
    obtain ⟨hlen, lv, hl, hm⟩ := a4
    exact lv_istore_n hx hb hd rfl hl (by rw [← hlen]; exact h1) rfl (fun als2 hl2 => k H locs cells slots als2 a1 a2 a3 (ab_rel.put (v := .int x) hlen hm h1 h2 hl2) a5 a6)
  case astore k0 =>
    simp only [ab_s] at hs
    replace hs := ab_if hs
    obtain ⟨rfl, hs⟩ := hs
    obtain ⟨x, st2, rfl, h1, h2, h3⟩ := ab_ast_inv hs
    cases h3
    intro H locs cells slots als a1 a2 a3 a4 a5 a6
    obtain ⟨hlen, lv, hl, hm⟩ := a4
    exact lv_astore hx hb hd hl (by rw [← hlen]; exact h1) rfl (fun als2 hl2 => k H locs cells slots als2 a1 a2 a3 (ab_rel.put (v := .ref x) hlen hm h1 h2 hl2) a5 a6)
  case astore_n k0 =>
    simp only [ab_s] at hs
    replace hs := ab_if hs
    obtain ⟨rfl, hs⟩ := hs
    obtain ⟨x, st2, rfl, h1, h2, h3⟩ := ab_ast_inv hs
    cases h3
    intro H locs cells slots als a1 a2 a3 a4 a5 a6
    obtain ⟨hlen, lv, hl, hm⟩ := a4
    exact lv_astore_n hx hb hd rfl hl (by rw [← hlen]; exact h1) rfl (fun als2 hl2 => k H locs cells slots als2 a1 a2 a3 (ab_rel.put (v := .ref x) hlen hm h1 h2 hl2) a5 a6)
  case iinc k0 n =>
    simp only [ab_s] at hs
    replace hs := ab_if hs
    obtain ⟨rfl, hs⟩ := hs
    obtain ⟨x, h0, h1, h2, h3⟩ := ab_inc_inv hs
    cases h3
    intro H locs cells slots als a1 a2 a3 a4 a5 a6
    obtain ⟨hlen, lv, hl, hm⟩ := a4
    obtain ⟨q, hq⟩ := List.getElem?_of_mem (hm k0 (.int x) h0 (by simp))
    exact lv_iinc (v := x + Int32.ofInt n) hx hb hd hl hq rfl (by rw [← hlen]; exact h1) rfl (fun als2 hl2 => k H locs cells slots als2 a1 a2 a3 (ab_rel.put (v := .int (x + Int32.ofInt n)) hlen hm h1 h2 hl2) a5 a6)
  case iconst n =>
    simp only [ab_s, ab_go] at hs
    replace hs := ab_if hs
    obtain ⟨rfl, hs⟩ := hs
    cases hs
    intro H locs cells slots als a1 a2 a3 a4 a5 a6
    exact lv_iconst hx hb hd rfl (k H locs cells slots als a1 a2 a3 a4 a5 a6)
  case bipush n =>
    simp only [ab_s, ab_go] at hs
    replace hs := ab_if hs
    obtain ⟨rfl, hs⟩ := hs
    cases hs
    intro H locs cells slots als a1 a2 a3 a4 a5 a6
    exact lv_bipush hx hb hd rfl (k H locs cells slots als a1 a2 a3 a4 a5 a6)
  case sipush n =>
    simp only [ab_s, ab_go] at hs
    replace hs := ab_if hs
    obtain ⟨rfl, hs⟩ := hs
    cases hs
    intro H locs cells slots als a1 a2 a3 a4 a5 a6
    exact lv_sipush hx hb hd rfl (k H locs cells slots als a1 a2 a3 a4 a5 a6)
  case lconst n =>
    simp only [ab_s, ab_go] at hs
    replace hs := ab_if hs
    obtain ⟨rfl, hs⟩ := hs
    cases hs
    intro H locs cells slots als a1 a2 a3 a4 a5 a6
    exact lv_lconst hx hb hd rfl (k H locs cells slots als a1 a2 a3 a4 a5 a6)
  case ldc k0 =>
    simp only [ab_s, ab_go] at hs
    replace hs := ab_if hs
    obtain ⟨rfl, hs⟩ := hs
    split at hs
    · rename_i v hv
      cases hs
      intro H locs cells slots als a1 a2 a3 a4 a5 a6
      obtain ⟨is, hk⟩ := ab_kT_ok _ (ab_lk_mem hv)
      exact lv_ldc hx hb hown (hts _ (ab_ats_mem hk _ List.mem_cons_self)) hd (k H locs cells slots als a1 a2 a3 a4 a5 a6)
    · split at hs
      · rename_i j hj
        cases hs
        intro H locs cells slots als a1 a2 a3 a4 a5 a6
        have hk := k H locs cells slots als a1 a2 a3 a4 a5 a6
        simp only [List.map_cons, ab_v, ab_ad_ro] at hk
        exact hX.2.2.1 hx hb hro.2.2.2.2 hown hts hj hd hk
      · cases hs
  case ldc_w k0 =>
    simp only [ab_s, ab_go] at hs
    replace hs := ab_if hs
    obtain ⟨rfl, hs⟩ := hs
    split at hs
    · rename_i v hv
      cases hs
      intro H locs cells slots als a1 a2 a3 a4 a5 a6
      obtain ⟨is, hk⟩ := ab_kT_ok _ (ab_lk_mem hv)
      exact lv_ldcw hx hb hown (hts _ (ab_ats_mem hk _ List.mem_cons_self)) hd (k H locs cells slots als a1 a2 a3 a4 a5 a6)
    · cases hs
  case ldc2_w k0 =>
    simp only [ab_s, ab_go] at hs
    replace hs := ab_if hs
    obtain ⟨rfl, hs⟩ := hs
    split at hs
    · rename_i v hv
      cases hs
      intro H locs cells slots als a1 a2 a3 a4 a5 a6
      obtain ⟨is, hk⟩ := ab_lT_ok _ (ab_lk_mem hv)
      exact lv_ldc2 hx hb hown (hts _ (ab_ats_mem hk _ List.mem_cons_self)) hd (k H locs cells slots als a1 a2 a3 a4 a5 a6)
    · cases hs
  case i2l =>
    simp only [ab_s, ab_go] at hs
    replace hs := ab_if hs
    obtain ⟨rfl, hs⟩ := hs
    split at hs
    · cases hs
      intro H locs cells slots als a1 a2 a3 a4 a5 a6
      exact lv_i2l hx hb hd rfl (k H locs cells slots als a1 a2 a3 a4 a5 a6)
    · cases hs
  case lcmp =>
    simp only [ab_s, ab_go] at hs
    replace hs := ab_if hs
    obtain ⟨rfl, hs⟩ := hs
    split at hs
    · cases hs
      intro H locs cells slots als a1 a2 a3 a4 a5 a6
      exact W.lcmp hx hb hd (k H locs cells slots als a1 a2 a3 a4 a5 a6)
    · cases hs
  case ineg =>
    simp only [ab_s, ab_go] at hs
    replace hs := ab_if hs
    obtain ⟨rfl, hs⟩ := hs
    split at hs
    · cases hs
      intro H locs cells slots als a1 a2 a3 a4 a5 a6
      exact lv_ineg hx hb hd (k H locs cells slots als a1 a2 a3 a4 a5 a6)
    · cases hs
  case dup =>
    simp only [ab_s, ab_go] at hs
    replace hs := ab_if hs
    obtain ⟨rfl, hs⟩ := hs
    split at hs
    · obtain ⟨hc, hs⟩ := ab_if hs
      cases hs
      intro H locs cells slots als a1 a2 a3 a4 a5 a6
      exact lv_dup hx hb hd (by rw [ab_cat]; exact hc) (k H locs cells slots als a1 a2 a3 a4 a5 a6)
    · cases hs
  case dup2 =>
    simp only [ab_s, ab_go] at hs
    replace hs := ab_if hs
    obtain ⟨rfl, hs⟩ := hs
    split at hs
    · obtain ⟨hc, hs⟩ := ab_if hs
      cases hs
      intro H locs cells slots als a1 a2 a3 a4 a5 a6
      exact lv_dup2_11 hx hb hd (by rw [ab_cat]; exact hc.1) (by rw [ab_cat]; exact hc.2) (k H locs cells slots als a1 a2 a3 a4 a5 a6)
    · cases hs
  case iadd =>
    simp only [ab_s] at hs
    replace hs := ab_if hs
    obtain ⟨rfl, hs⟩ := hs
    obtain ⟨x, y, v, st2, rfl, hv, h2⟩ := ab_bin_inv hs
    cases hv
    cases h2
    intro H locs cells slots als a1 a2 a3 a4 a5 a6
    exact lv_iadd hx hb hd (k H locs cells slots als a1 a2 a3 a4 a5 a6)
  case isub =>
    simp only [ab_s] at hs
    replace hs := ab_if hs
    obtain ⟨rfl, hs⟩ := hs
    obtain ⟨x, y, v, st2, rfl, hv, h2⟩ := ab_bin_inv hs
    cases hv
    cases h2
    intro H locs cells slots als a1 a2 a3 a4 a5 a6
    exact lv_isub hx hb hd (k H locs cells slots als a1 a2 a3 a4 a5 a6)
  case imul =>
    simp only [ab_s] at hs
    replace hs := ab_if hs
    obtain ⟨rfl, hs⟩ := hs
    obtain ⟨x, y, v, st2, rfl, hv, h2⟩ := ab_bin_inv hs
    cases hv
    cases h2
    intro H locs cells slots als a1 a2 a3 a4 a5 a6
    exact lv_imul hx hb hd (k H locs cells slots als a1 a2 a3 a4 a5 a6)
  case iand =>
    simp only [ab_s] at hs
    replace hs := ab_if hs
    obtain ⟨rfl, hs⟩ := hs
    obtain ⟨x, y, v, st2, rfl, hv, h2⟩ := ab_bin_inv hs
    cases hv
    cases h2
    intro H locs cells slots als a1 a2 a3 a4 a5 a6
    exact lv_iand hx hb hd (k H locs cells slots als a1 a2 a3 a4 a5 a6)
  case ior =>
    simp only [ab_s] at hs
    replace hs := ab_if hs
    obtain ⟨rfl, hs⟩ := hs
    obtain ⟨x, y, v, st2, rfl, hv, h2⟩ := ab_bin_inv hs
    cases hv
    cases h2
    intro H locs cells slots als a1 a2 a3 a4 a5 a6
    exact lv_ior hx hb hd (k H locs cells slots als a1 a2 a3 a4 a5 a6)
  case ixor =>
    simp only [ab_s] at hs
    replace hs := ab_if hs
    obtain ⟨rfl, hs⟩ := hs
    obtain ⟨x, y, v, st2, rfl, hv, h2⟩ := ab_bin_inv hs
    cases hv
    cases h2
    intro H locs cells slots als a1 a2 a3 a4 a5 a6
    exact lv_ixor hx hb hd (k H locs cells slots als a1 a2 a3 a4 a5 a6)
  case ishl =>
    simp only [ab_s] at hs
    replace hs := ab_if hs
    obtain ⟨rfl, hs⟩ := hs
    obtain ⟨x, y, v, st2, rfl, hv, h2⟩ := ab_bin_inv hs
    cases hv
    cases h2
    intro H locs cells slots als a1 a2 a3 a4 a5 a6
    exact lv_ishl hx hb hd (k H locs cells slots als a1 a2 a3 a4 a5 a6)
  case ishr =>
    simp only [ab_s] at hs
    replace hs := ab_if hs
    obtain ⟨rfl, hs⟩ := hs
    obtain ⟨x, y, v, st2, rfl, hv, h2⟩ := ab_bin_inv hs
    cases hv
    cases h2
    intro H locs cells slots als a1 a2 a3 a4 a5 a6
    exact lv_ishr hx hb hd (k H locs cells slots als a1 a2 a3 a4 a5 a6)
  case iushr =>
    simp only [ab_s] at hs
    replace hs := ab_if hs
    obtain ⟨rfl, hs⟩ := hs
    obtain ⟨x, y, v, st2, rfl, hv, h2⟩ := ab_bin_inv hs
    cases hv
    cases h2
    intro H locs cells slots als a1 a2 a3 a4 a5 a6
    exact lv_iushr hx hb hd rfl (k H locs cells slots als a1 a2 a3 a4 a5 a6)
  case idiv =>
    simp only [ab_s] at hs
    replace hs := ab_if hs
    obtain ⟨rfl, hs⟩ := hs
    obtain ⟨x, y, v, st2, rfl, hv, h2⟩ := ab_bin_inv hs
    split at hv
    · cases hv
    · cases hv
      cases h2
      intro H locs cells slots als a1 a2 a3 a4 a5 a6
      exact lv_idiv hx hb hd ‹_› (k H locs cells slots als a1 a2 a3 a4 a5 a6)
  case irem =>
    simp only [ab_s] at hs
    replace hs := ab_if hs
    obtain ⟨rfl, hs⟩ := hs
    obtain ⟨x, y, v, st2, rfl, hv, h2⟩ := ab_bin_inv hs
    split at hv
    · cases hv
    · cases hv
      cases h2
      intro H locs cells slots als a1 a2 a3 a4 a5 a6
      exact lv_irem hx hb hd ‹_› (k H locs cells slots als a1 a2 a3 a4 a5 a6)
  case goto off =>
    simp only [ab_s] at hs
    replace hs := ab_if hs
    obtain ⟨rfl, hs⟩ := hs
    obtain ⟨tgt, ht, h2⟩ := ab_jmp_inv hs
    cases h2
    intro H locs cells slots als a1 a2 a3 a4 a5 a6
    exact lv_goto hx hb hd ht (k H locs cells slots als a1 a2 a3 a4 a5 a6)
  case if_icmp q off =>
    simp only [ab_s] at hs
    replace hs := ab_if hs
    obtain ⟨rfl, hs⟩ := hs
    split at hs
    · obtain ⟨tgt, ht, hs⟩ := ab_br_inv hs
      rcases hs with ⟨hc, hs⟩ | ⟨hc, hs⟩ <;> cases hs <;> intro H locs cells slots als a1 a2 a3 a4 a5 a6 <;> have kk := k H locs cells slots als a1 a2 a3 a4 a5 a6 <;> cases q <;> simp only [ab_cmp, decide_eq_true_eq, decide_eq_false_iff_not, ne_eq, Classical.not_not] at hc
      · exact lv_icmp_eq hx hb hd ht (fun _ => kk) (fun h => absurd hc h)
      · exact lv_icmp_ne hx hb hd ht (fun _ => kk) (fun h => absurd h hc)
      · exact lv_icmp_lt hx hb hd ht (fun _ => kk) (fun h => absurd hc h)
      · exact lv_icmp_ge hx hb hd ht (fun _ => kk) (fun h => absurd hc h)
      · exact lv_icmp_gt hx hb hd ht (fun _ => kk) (fun h => absurd hc h)
      · exact lv_icmp_le hx hb hd ht (fun _ => kk) (fun h => absurd hc h)
      · exact lv_icmp_eq hx hb hd ht (fun h => absurd h hc) (fun _ => kk)
      · exact lv_icmp_ne hx hb hd ht (fun h => absurd hc h) (fun _ => kk)
      · exact lv_icmp_lt hx hb hd ht (fun h => absurd h hc) (fun _ => kk)
      · exact lv_icmp_ge hx hb hd ht (fun h => absurd h hc) (fun _ => kk)
      · exact lv_icmp_gt hx hb hd ht (fun h => absurd h hc) (fun _ => kk)
      · exact lv_icmp_le hx hb hd ht (fun h => absurd h hc) (fun _ => kk)
    · cases hs
  case ifCond q off =>
    simp only [ab_s] at hs
    replace hs := ab_if hs
    obtain ⟨rfl, hs⟩ := hs
    split at hs
    · obtain ⟨tgt, ht, hs⟩ := ab_br_inv hs
      rcases hs with ⟨hc, hs⟩ | ⟨hc, hs⟩ <;> cases hs <;> intro H locs cells slots als a1 a2 a3 a4 a5 a6 <;> have kk := k H locs cells slots als a1 a2 a3 a4 a5 a6 <;> cases q <;> simp only [ab_cmp, decide_eq_true_eq, decide_eq_false_iff_not, ne_eq, Classical.not_not] at hc
      · exact lv_if_eq hx hb hd ht (fun _ => kk) (fun h => absurd hc h)
      · exact lv_if_ne hx hb hd ht (fun _ => kk) (fun h => absurd h hc)
      · exact lv_if_lt hx hb hd ht (fun _ => kk) (fun h => absurd hc h)
      · exact lv_if_ge hx hb hd ht (fun _ => kk) (fun h => absurd hc h)
      · exact lv_if_gt hx hb hd ht (fun _ => kk) (fun h => absurd hc h)
      · exact lv_if_le hx hb hd ht (fun _ => kk) (fun h => absurd hc h)
      · exact lv_if_eq hx hb hd ht (fun h => absurd h hc) (fun _ => kk)
      · exact lv_if_ne hx hb hd ht (fun h => absurd hc h) (fun _ => kk)
      · exact lv_if_lt hx hb hd ht (fun h => absurd h hc) (fun _ => kk)
      · exact lv_if_ge hx hb hd ht (fun h => absurd h hc) (fun _ => kk)
      · exact lv_if_gt hx hb hd ht (fun h => absurd h hc) (fun _ => kk)
      · exact lv_if_le hx hb hd ht (fun h => absurd h hc) (fun _ => kk)
    · cases hs
  case tableswitch dflt lo hi2 offs =>
    simp only [ab_s] at hs
    split at hs
    · split at hs
      · rename_i ho
        obtain ⟨tgt, ht, h2⟩ := ab_jmp_inv hs
        cases h2
        intro H locs cells slots als a1 a2 a3 a4 a5 a6
        exact lv_tableOut hx hb hd ho ht (k H locs cells slots als a1 a2 a3 a4 a5 a6)
      · rename_i ho
        split at hs
        · rename_i off hof
          obtain ⟨tgt, ht, h2⟩ := ab_jmp_inv hs
          cases h2
          intro H locs cells slots als a1 a2 a3 a4 a5 a6
          exact lv_tableIn hx hb hd (fun q => ho (Or.inl q)) (fun q => ho (Or.inr q)) hof ht (k H locs cells slots als a1 a2 a3 a4 a5 a6)
        · cases hs
    · cases hs
  case ireturn =>
    simp only [ab_s] at hs
    replace hs := ab_if hs
    obtain ⟨rfl, hs⟩ := hs
    split at hs
    · obtain ⟨_, hs⟩ := ab_if hs
      cases hs
    · cases hs
  case return_ =>
    simp only [ab_s] at hs
    replace hs := ab_if hs
    obtain ⟨rfl, hs⟩ := hs
    split at hs
    · obtain ⟨_, hs⟩ := ab_if hs
      cases hs
    · cases hs
  all_goals first | (simp [ab_kd] at hi; done) | (simp [ab_s] at hs; done)
end ABT
