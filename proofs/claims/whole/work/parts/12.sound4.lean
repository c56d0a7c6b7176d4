/-! CALLS, BODIES, AND ALL METHODS -/
def ab_Q (Sx : ab_SX) (D : va_G) (cy : Nat → ClassId) (B : Nat) (rv : Nat → Nat) (rom : List (List Int32)) (v : Option Value) (hp : ab_H) : Array Value → State → Outcome → State → Prop := match v with
  | none => va_Qv (fun _ : Unit => True) (fun _ t => ab_Ws Sx D cy B rv rom hp t) (ab_A B)
  | some (.int r) => va_Qi (fun (r' : Int32) (_ : Unit) => r' = r) (fun _ t => ab_Ws Sx D cy B rv rom hp t) (ab_A B)
  | _ => fun _ _ _ _ => False
def ab_rm (d : Nat) (hp hp2 : ab_H) : Room := { frames := d, cells := hp2.length - hp.length, slots := ab_szs hp2 - ab_szs hp, locals := 41 * d }
set_option maxRecDepth 20000 in
def ab_KOK (Sx : ab_SX) (l : Launch) (D : va_G) (cy : Nat → ClassId) (B : Nat) (rv : Nat → Nat) (rom : List (List Int32)) (d : Nat) (K : Nat → List Value → ab_H → Option ab_O) : Prop := ∀ (mid : Nat) (as : List Value) (hp : ab_H) (v : Option Value) (hp2 : ab_H), K mid as hp = some (v, hp2) → ab_le hp hp2 ∧ (v = none ∨ ∃ r, v = some (.int r)) ∧
  (∀ (y : MethodName) (b : ByteArray) (n rt cn : Nat), ab_mT[mid]? = some (y, b, n, rt, cn) → Met l y (.code y b n (ab_ret rt) :: ab_W) (ab_rm d hp hp2) (va_Pc (as.map (ab_v B rv)) (ab_Ws Sx D cy B rv rom hp)) (ab_Q Sx D cy B rv rom v hp2) (hp2.length - hp.length) (ab_szs hp2 - ab_szs hp) (ab_A B)) ∧
  (1000 ≤ mid → 7 ≤ d ∧ hp2 = hp ∧ ab_prim mid as hp = some (v, hp))
theorem ab_mT_len : ab_mT.length = 267 := by decide +kernel
theorem ab_m_ok {mid : Nat} {y : MethodName} {b : ByteArray} {n rt cn : Nat} (h : ab_mT[mid]? = some (y, b, n, rt, cn)) : Jvm.Cond.code y b n (ab_ret rt) ∈ ab_W ∧ y.cls = ab_cl cn ∧ plainName y.cls = true ∧ (rt = 3 ↔ y.name = "<init>") ∧ n ≤ 20 ∧ y.cls ≠ "java/lang/invoke/MethodHandle" ∧ y.cls ≠ "java/lang/invoke/VarHandle" ∧ ab_y mid = y := by
  obtain ⟨is, hok⟩ := ab_mT_ok _ (List.mem_of_getElem? h)
  simp only [ab_mok, Bool.and_eq_true, decide_eq_true_eq, beq_iff_eq, decide_eq_decide] at hok
  obtain ⟨⟨⟨⟨⟨⟨h1, h2⟩, h3⟩, h4⟩, h5⟩, h6⟩, h7⟩ := hok
  exact ⟨ab_ats_mem h1 _ List.mem_cons_self, h2, h3, h4, h5, h6, h7, by unfold ab_y; rw [h]⟩
theorem ab_good_code {y : MethodName} {b : ByteArray} {n : Nat} {r : Option FieldType} (h : Jvm.Cond.code y b n r ∈ ab_W) : GoodIn ab_W (.code y b n r :: ab_W) := fun w hw => by
  rcases List.mem_cons.mp hw with e | e
  · subst e
    exact ab_W_good _ h
  · exact ab_W_good _ e
/-- a row of the calls: its method, its words -/
theorem ab_c_ok {cn k0 kd mid n ci : Nat} (h : ab_lk ab_cT cn k0 = some (kd, mid, n, ci)) : (∀ w ∈ ab_cw (cn, k0, kd, mid, n, ci), w ∈ ab_W) ∧ (kd ≤ 3 → ∃ (y : MethodName) (b : ByteArray) (nl rt2 cn2 : Nat), ab_mT[mid]? = some (y, b, nl, rt2, cn2) ∧ (parseMethodDescriptor y.desc).map (fun d => d.parameters.length) = some n ∧ (kd ≠ 1 → ∃ T N, ab_vw[ci]? = some (y.cls, T, N)) ∧ (2 ≤ kd → y.name = "<init>" ∧ rt2 = 3)) := by
  obtain ⟨is, hok⟩ := ab_cT_ok _ (ab_lk_mem h)
  simp only [ab_cok, Bool.and_eq_true] at hok
  obtain ⟨h1, h2⟩ := hok
  refine ⟨ab_ats_mem h1, fun h3 => ?_⟩
  rw [if_pos h3] at h2
  simp only [Bool.and_eq_true, Bool.or_eq_true, decide_eq_true_eq, beq_iff_eq, ab_np] at h2
  obtain ⟨⟨⟨g1, g2⟩, g3⟩, g4⟩ := h2
  have hl : mid < ab_mT.length := by rw [ab_mT_len]; exact g4
  obtain ⟨q, hq⟩ : ∃ q, ab_mT[mid]? = some q := ⟨_, List.getElem?_eq_getElem hl⟩
  obtain ⟨y, b, nl, rt2, cn2⟩ := q
  obtain ⟨-, -, -, m4, -, -, -, m8⟩ := ab_m_ok hq
  rw [m8] at g1 g2 g3
  refine ⟨y, b, nl, rt2, cn2, hq, g1, fun hne => ?_, fun h9 => ?_⟩
  · rcases g2 with e | e
    · exact absurd e hne
    · cases hv : ab_vw[ci]? with
      | none => rw [hv] at e; cases e
      | some z =>
        obtain ⟨C, T, N⟩ := z
        rw [hv] at e
        have e2 : C = y.cls := Option.some.inj e
        subst e2
        exact ⟨T, N, rfl⟩
  · rcases g3 with e | e
    · omega
    · exact ⟨e, m4.mpr e⟩
def ab_cT3 : List (Nat × Nat × Nat × Nat × Nat × Nat) := [(6, 9, 3, 75, 0, 5), (6, 25, 3, 11, 0, 1), (2, 28, 3, 11, 0, 1), (4, 11, 3, 0, 0, 0)]
set_option maxRecDepth 100000 in
theorem ab_nest_of {cn k0 mid n ci : Nat} {q : MethodName × ByteArray × Nat × Nat × Nat} (h : ab_lk ab_cT cn k0 = some (3, mid, n, ci)) (hq : ab_mT[mid]? = some q) : Jvm.Cond.methodLinkNest (ab_cl cn) k0 q.1 "FairLabels" ∈ ab_nest := by
  have h1 := ab_lk_mem h
  have h2 : (ab_cT.filter (fun z => z.2.2.1 == 3)) = ab_cT3 := by decide +kernel
  have h3 : (cn, k0, 3, mid, n, ci) ∈ ab_cT3 := by rw [← h2]; exact List.mem_filter.mpr ⟨h1, rfl⟩
  simp only [ab_cT3, List.mem_cons, Prod.mk.injEq, List.not_mem_nil, or_false] at h3
  rcases h3 with ⟨za, zb, -, zc, -, -⟩ | ⟨za, zb, -, zc, -, -⟩ | ⟨za, zb, -, zc, -, -⟩ | ⟨za, zb, -, zc, -, -⟩ <;> subst za <;> subst zb <;> subst zc
  · have h9 : (ab_mT[75]?).map (fun z => z.1) = some yX7_init := by decide +kernel
    rw [hq] at h9
    have e9 : q.1 = yX7_init := Option.some.inj h9
    rw [e9]
    exact List.mem_of_getElem? (i := 0) (by decide +kernel)
  · have h9 : (ab_mT[11]?).map (fun z => z.1) = some yX3_init := by decide +kernel
    rw [hq] at h9
    have e9 : q.1 = yX3_init := Option.some.inj h9
    rw [e9]
    exact List.mem_of_getElem? (i := 1) (by decide +kernel)
  · have h9 : (ab_mT[11]?).map (fun z => z.1) = some yX3_init := by decide +kernel
    rw [hq] at h9
    have e9 : q.1 = yX3_init := Option.some.inj h9
    rw [e9]
    exact List.mem_of_getElem? (i := 2) (by decide +kernel)
  · have h9 : (ab_mT[0]?).map (fun z => z.1) = some yX0_init := by decide +kernel
    rw [hq] at h9
    have e9 : q.1 = yX0_init := Option.some.inj h9
    rw [e9]
    exact List.mem_of_getElem? (i := 3) (by decide +kernel)
section ABV
variable {Sx : ab_SX} {p : Program} {l : Launch} {e : Env} {R : Room} {s : State} {m : MethodId} {args : Array Value} {below : List Frame} {meth : Method} {c : Code} {Q : State → Prop}
variable {cc : ByteArray} {cn rt nL c0 z0 : Nat} {D : va_G} {cy : Nat → ClassId} {B : Nat} {rv : Nat → Nat} {rom : List (List Int32)} {hp hp2 : ab_H} {i : Instr} {len pc pc' : Nat} {ls st ls' rest : List Value} {H : Heap} {locs : List Loc} {cells slots : Nat}
theorem ab_blind (hX : ab_SxOK Sx) (av : List Value) : FrameBlind (va_Pc av (ab_Ws Sx D cy B rv rom hp)) := fun a U g mk q => by
  obtain ⟨q0, q1, q2, q3, q4, q5⟩ := q
  exact ⟨q0, q1, q2, q3, va_K.moved (u := U) (U := U.calling g mk a) (Vm.Alike.refl U.vm) q4, q5.calling hX g mk a⟩
theorem ab_pre (hX : ab_SxOK Sx) (hK : va_K D ab_vw (ab_ty cy) s) (hro : ab_ro Sx B rv rom s) (hsz : s.heap.size = B + c0) (hP : va_P D ab_vw (ab_w B rv cy hp) H) (hl : hp.length ≤ ab_RO) (hS : va_S (ab_A B) s.heap H locs) (hz : H.size = B + hp.length) {av : List Value} : ∀ U : State, U.heap = H → s.WarmedH U.vm → va_Pc av (ab_Ws Sx D cy B rv rom hp) av.toArray U := fun U hU hW => by
  subst hU
  exact ⟨rfl, hz, hl, hP, va_K.moved hW.alike hK, hro.warm hX (by omega) hW hS.2.1⟩
theorem ab_back {v : Option Value} {mc ms : Nat} {st0 : List Value} {als : Array Slot} {a : Array Value} (hv : v = none ∨ ∃ r, v = some (.int r)) (hrun : va_Run p l e R s m args below meth c H locs cells slots mc ms (F0 m pc als st0) (rest.map (ab_v B rv)) (ab_Q Sx D cy B rv rom v hp2 a) (ab_A B)) (hS : va_S (ab_A B) s.heap H locs) (hrel : ab_rel B rv nL ls als) (h1 : cells + mc + c0 = hp2.length) (h2 : slots + ms + z0 = ab_szs hp2)
    (k : ab_Go p l e R s m args below meth c Q D cy B rv nL c0 z0 (pc + 3) ls (v.toList ++ rest) hp2) : W p l e R s m args below meth c H locs cells slots Q (F0 m pc als st0) := by
  rcases hv with e9 | ⟨r, e9⟩ <;> subst e9
  · refine va_callv (a := a) hrun hS (fun _ _ h => h) (fun _ h => h) (fun u t H1 locs1 ht _ _ hB _ _ hS1 => ?_)
    obtain ⟨b1, b2, b3, -, -⟩ := hB
    subst ht
    exact k _ locs1 _ _ als b3 b2 hS1 hrel h1 h2
  · refine va_calli (a := a) hrun hS (fun _ _ h => h) (fun _ h => h) (fun r2 u t H1 locs1 ht _ hr2 hB _ _ hS1 => ?_)
    obtain ⟨b1, b2, b3, -, -⟩ := hB
    subst ht
    subst hr2
    exact k _ locs1 _ _ als b3 b2 hS1 hrel h1 h2
theorem ab_take_rev (n : Nat) (st : List Value) : (((st.take n).reverse.map (ab_v B rv)).reverse) = (st.map (ab_v B rv)).take n := by
  rw [← List.map_reverse, List.reverse_reverse, List.map_take]
set_option maxHeartbeats 4000000 in
/-- a call -/
theorem ab_kC (hX : ab_SxOK Sx) (X : ab_Cx Sx p R s m args meth c cc cn rt nL c0 D cy B rv rom) (hd : decode cc pc = .ok (i, len)) {mid : Nat} {as : List Value} {hp1 : ab_H} {v : Option Value} {K : Nat → List Value → ab_H → Option ab_O} {d : Nat} (hKm : ab_KOK Sx l D cy B rv rom d K) (hRd : d + 1 ≤ R.frames ∧ 41 * d + 39 ≤ R.locals)
    (hs : ab_s rom cn rt i len pc ls st hp = some (.inr (.inr (mid, as, pc', ls', rest, hp1)))) (hk : K mid as hp1 = some (v, hp2)) (hr : hp2.length ≤ R.cells + c0) (hz : ab_szs hp2 ≤ R.slots + z0)
    (k : ab_Go p l e R s m args below meth c Q D cy B rv nL c0 z0 pc' ls' (v.toList ++ rest) hp2) : ab_Go p l e R s m args below meth c Q D cy B rv nL c0 z0 pc ls st hp := by
  have hcall : ∃ ivk k0, len = 3 ∧ ab_call ivk (ab_lk ab_cT cn k0) pc ls st hp = some (.inr (.inr (mid, as, pc', ls', rest, hp1))) ∧ ((ivk = 0 ∧ i = .invokevirtual k0) ∨ (ivk = 1 ∧ i = .invokestatic k0) ∨ (ivk = 2 ∧ i = .invokespecial k0)) := by
    have hl := hs
    cases i
    case invokevirtual k0 =>
      simp only [ab_s] at hl
      exact ⟨0, k0, (ab_if hl).1, (ab_if hl).2, Or.inl ⟨rfl, rfl⟩⟩
    case invokestatic k0 =>
      simp only [ab_s] at hl
      exact ⟨1, k0, (ab_if hl).1, (ab_if hl).2, Or.inr (Or.inl ⟨rfl, rfl⟩)⟩
    case invokespecial k0 =>
      simp only [ab_s] at hl
      exact ⟨2, k0, (ab_if hl).1, (ab_if hl).2, Or.inr (Or.inr ⟨rfl, rfl⟩)⟩
    case iload k0 => simp only [ab_s] at hl; obtain ⟨_, zl⟩ := ab_if hl; obtain ⟨_, _, zz⟩ := ab_ild_inv zl; cases zz
    case iload_n k0 => simp only [ab_s] at hl; obtain ⟨_, zl⟩ := ab_if hl; obtain ⟨_, _, zz⟩ := ab_ild_inv zl; cases zz
    case aload k0 => simp only [ab_s] at hl; obtain ⟨_, zl⟩ := ab_if hl; obtain ⟨_, _, zz⟩ := ab_ald_inv zl; cases zz
    case aload_n k0 => simp only [ab_s] at hl; obtain ⟨_, zl⟩ := ab_if hl; obtain ⟨_, _, zz⟩ := ab_ald_inv zl; cases zz
    case lload k0 => simp only [ab_s] at hl; obtain ⟨_, zl⟩ := ab_if hl; obtain ⟨_, _, zz⟩ := ab_lld_inv zl; cases zz
    case lload_n k0 => simp only [ab_s] at hl; obtain ⟨_, zl⟩ := ab_if hl; obtain ⟨_, _, zz⟩ := ab_lld_inv zl; cases zz
    case istore k0 => simp only [ab_s] at hl; obtain ⟨_, zl⟩ := ab_if hl; obtain ⟨_, _, _, _, _, zz⟩ := ab_ist_inv zl; cases zz
    case istore_n k0 => simp only [ab_s] at hl; obtain ⟨_, zl⟩ := ab_if hl; obtain ⟨_, _, _, _, _, zz⟩ := ab_ist_inv zl; cases zz
    case astore k0 => simp only [ab_s] at hl; obtain ⟨_, zl⟩ := ab_if hl; obtain ⟨_, _, _, _, _, zz⟩ := ab_ast_inv zl; cases zz
    case astore_n k0 => simp only [ab_s] at hl; obtain ⟨_, zl⟩ := ab_if hl; obtain ⟨_, _, _, _, _, zz⟩ := ab_ast_inv zl; cases zz
    case iinc k0 n => simp only [ab_s] at hl; obtain ⟨_, zl⟩ := ab_if hl; obtain ⟨_, _, _, _, zz⟩ := ab_inc_inv zl; cases zz
    case iconst n => simp only [ab_s, ab_go] at hl; obtain ⟨_, zl⟩ := ab_if hl; cases zl
    case bipush n => simp only [ab_s, ab_go] at hl; obtain ⟨_, zl⟩ := ab_if hl; cases zl
    case sipush n => simp only [ab_s, ab_go] at hl; obtain ⟨_, zl⟩ := ab_if hl; cases zl
    case lconst n => simp only [ab_s, ab_go] at hl; obtain ⟨_, zl⟩ := ab_if hl; cases zl
    case ldc k0 =>
      simp only [ab_s, ab_go] at hl
      obtain ⟨_, zl⟩ := ab_if hl
      split at zl
      · cases zl
      · split at zl <;> cases zl
    case ldc_w k0 =>
      simp only [ab_s, ab_go] at hl
      obtain ⟨_, zl⟩ := ab_if hl
      split at zl <;> cases zl
    case ldc2_w k0 =>
      simp only [ab_s, ab_go] at hl
      obtain ⟨_, zl⟩ := ab_if hl
      split at zl <;> cases zl
    case i2l =>
      simp only [ab_s, ab_go] at hl
      obtain ⟨_, zl⟩ := ab_if hl
      split at zl <;> cases zl
    case lcmp =>
      simp only [ab_s, ab_go] at hl
      obtain ⟨_, zl⟩ := ab_if hl
      split at zl <;> cases zl
    case ineg =>
      simp only [ab_s, ab_go] at hl
      obtain ⟨_, zl⟩ := ab_if hl
      split at zl <;> cases zl
    case dup =>
      simp only [ab_s, ab_go] at hl
      obtain ⟨_, zl⟩ := ab_if hl
      split at zl
      · obtain ⟨_, zm⟩ := ab_if zl
        cases zm
      · cases zl
    case dup2 =>
      simp only [ab_s, ab_go] at hl
      obtain ⟨_, zl⟩ := ab_if hl
      split at zl
      · obtain ⟨_, zm⟩ := ab_if zl
        cases zm
      · cases zl
    case iadd => simp only [ab_s] at hl; obtain ⟨_, zl⟩ := ab_if hl; obtain ⟨_, _, _, _, _, _, zz⟩ := ab_bin_inv zl; cases zz
    case isub => simp only [ab_s] at hl; obtain ⟨_, zl⟩ := ab_if hl; obtain ⟨_, _, _, _, _, _, zz⟩ := ab_bin_inv zl; cases zz
    case imul => simp only [ab_s] at hl; obtain ⟨_, zl⟩ := ab_if hl; obtain ⟨_, _, _, _, _, _, zz⟩ := ab_bin_inv zl; cases zz
    case idiv => simp only [ab_s] at hl; obtain ⟨_, zl⟩ := ab_if hl; obtain ⟨_, _, _, _, _, _, zz⟩ := ab_bin_inv zl; cases zz
    case irem => simp only [ab_s] at hl; obtain ⟨_, zl⟩ := ab_if hl; obtain ⟨_, _, _, _, _, _, zz⟩ := ab_bin_inv zl; cases zz
    case iand => simp only [ab_s] at hl; obtain ⟨_, zl⟩ := ab_if hl; obtain ⟨_, _, _, _, _, _, zz⟩ := ab_bin_inv zl; cases zz
    case ior => simp only [ab_s] at hl; obtain ⟨_, zl⟩ := ab_if hl; obtain ⟨_, _, _, _, _, _, zz⟩ := ab_bin_inv zl; cases zz
    case ixor => simp only [ab_s] at hl; obtain ⟨_, zl⟩ := ab_if hl; obtain ⟨_, _, _, _, _, _, zz⟩ := ab_bin_inv zl; cases zz
    case ishl => simp only [ab_s] at hl; obtain ⟨_, zl⟩ := ab_if hl; obtain ⟨_, _, _, _, _, _, zz⟩ := ab_bin_inv zl; cases zz
    case ishr => simp only [ab_s] at hl; obtain ⟨_, zl⟩ := ab_if hl; obtain ⟨_, _, _, _, _, _, zz⟩ := ab_bin_inv zl; cases zz
    case iushr => simp only [ab_s] at hl; obtain ⟨_, zl⟩ := ab_if hl; obtain ⟨_, _, _, _, _, _, zz⟩ := ab_bin_inv zl; cases zz
    case goto off => simp only [ab_s] at hl; obtain ⟨_, zl⟩ := ab_if hl; obtain ⟨_, _, zz⟩ := ab_jmp_inv zl; cases zz
    case if_icmp q off =>
      simp only [ab_s] at hl
      obtain ⟨_, zl⟩ := ab_if hl
      split at zl
      · obtain ⟨tgt, _, zm⟩ := ab_br_inv zl
        rcases zm with ⟨_, zz⟩ | ⟨_, zz⟩ <;> cases zz
      · cases zl
    case ifCond q off =>
      simp only [ab_s] at hl
      obtain ⟨_, zl⟩ := ab_if hl
      split at zl
      · obtain ⟨tgt, _, zm⟩ := ab_br_inv zl
        rcases zm with ⟨_, zz⟩ | ⟨_, zz⟩ <;> cases zz
      · cases zl
    case tableswitch dflt lo hi2 offs =>
      simp only [ab_s] at hl
      split at hl
      · split at hl
        · obtain ⟨_, _, zz⟩ := ab_jmp_inv hl
          cases zz
        · split at hl
          · obtain ⟨_, _, zz⟩ := ab_jmp_inv hl
            cases zz
          · cases hl
      · cases hl
    case getfield k0 => simp only [ab_s] at hl; obtain ⟨_, zl⟩ := ab_if hl; obtain ⟨_, _, _, _, _, _, _, _, _, _, _, _, zz⟩ := ab_gf_inv zl; cases zz
    case putfield k0 => simp only [ab_s] at hl; obtain ⟨_, zl⟩ := ab_if hl; obtain ⟨_, _, _, _, _, _, _, _, _, _, _, _, _, _, zz⟩ := ab_pf_inv zl; cases zz
    case getstatic k0 =>
      simp only [ab_s, ab_go] at hl
      obtain ⟨_, zl⟩ := ab_if hl
      split at zl <;> cases zl
    case iaload => simp only [ab_s] at hl; obtain ⟨_, zl⟩ := ab_if hl; obtain ⟨_, _, _, _, _, _, _, _, _, zz⟩ := ab_xld_inv zl; cases zz
    case baload => simp only [ab_s] at hl; obtain ⟨_, zl⟩ := ab_if hl; obtain ⟨_, _, _, _, _, _, _, _, _, zz⟩ := ab_xld_inv zl; cases zz
    case iastore => simp only [ab_s] at hl; obtain ⟨_, zl⟩ := ab_if hl; obtain ⟨_, _, _, _, _, _, _, _, _, _, zz⟩ := ab_xst_inv zl; cases zz
    case bastore => simp only [ab_s] at hl; obtain ⟨_, zl⟩ := ab_if hl; obtain ⟨_, _, _, _, _, _, _, _, _, _, zz⟩ := ab_xst_inv zl; cases zz
    case aaload => simp only [ab_s] at hl; obtain ⟨_, zl⟩ := ab_if hl; obtain ⟨_, _, _, _, _, _, _, _, _, zz⟩ := ab_rld_inv zl; cases zz
    case aastore => simp only [ab_s] at hl; obtain ⟨_, zl⟩ := ab_if hl; obtain ⟨_, _, _, _, _, _, _, _, _, _, _, zz⟩ := ab_rst_inv zl; cases zz
    case arraylength => simp only [ab_s] at hl; obtain ⟨_, zl⟩ := ab_if hl; obtain ⟨_, _, _, _, _, zz⟩ := ab_len_inv zl; cases zz
    case newarray t =>
      simp only [ab_s] at hl
      obtain ⟨_, zl⟩ := ab_if hl
      split at zl
      · obtain ⟨_, _, _, _, _, _, zz⟩ := ab_na_inv zl; cases zz
      · obtain ⟨_, _, _, _, _, _, zz⟩ := ab_na_inv zl; cases zz
      · cases zl
    case anewarray k0 => simp only [ab_s] at hl; obtain ⟨_, zl⟩ := ab_if hl; obtain ⟨_, _, _, _, _, _, _, zz⟩ := ab_nr_inv zl; cases zz
    case new k0 => simp only [ab_s] at hl; obtain ⟨_, zl⟩ := ab_if hl; obtain ⟨_, _, _, _, zz⟩ := ab_nw_inv zl; cases zz
    case ireturn =>
      simp only [ab_s] at hl
      obtain ⟨_, zl⟩ := ab_if hl
      split at zl
      · obtain ⟨_, zm⟩ := ab_if zl
        cases zm
      · cases zl
    case return_ =>
      simp only [ab_s] at hl
      obtain ⟨_, zl⟩ := ab_if hl
      split at zl
      · obtain ⟨_, zm⟩ := ab_if zl
        cases zm
      · cases zl
    all_goals (simp [ab_s] at hl; done)
  clear hs
  obtain ⟨ivk, k0, hlen, hs, hiv⟩ := hcall
  subst hlen
  obtain ⟨hx, hb, hml, hown, hts, hin, hK, hro, hsz, hfr, hlo⟩ := X
  obtain ⟨kd, mid2, n, ci, hF, hs⟩ := ab_call_inv hs
  obtain ⟨hcw, hc3⟩ := ab_c_ok hF
  obtain ⟨hle, hv, hM, hpr⟩ := hKm _ _ _ _ _ hk
  rcases hs with zs | zs | zs | zs | zs | zs | zs | zs
  · -- static
    obtain ⟨e1, e2, hn, hl4, e3⟩ := zs
    cases e3
    subst e1
    subst e2
    have hi9 : i = .invokestatic k0 := by
      rcases hiv with ⟨e, _⟩ | ⟨_, e⟩ | ⟨e, _⟩
      · cases e
      · exact e
      · cases e
    subst hi9
    obtain ⟨y, b, nl, rt2, cn2, hq, hnp, -, -⟩ := hc3 (by omega)
    obtain ⟨m1, m2, m3, m4, m5, m6, m7, m8⟩ := ab_m_ok hq
    have hM := hM y b nl rt2 cn2 hq
    have w1 := hcw (.methodLink (ab_cl cn) k0 y) (by simp [ab_cw, m8])
    have w2 := hcw (.static y) (by simp [ab_cw, m8])
    have w3 := hcw (.initialized y.cls) (by simp [ab_cw, m8])
    intro H locs cells slots als a1 a2 a3 a4 a5 a6
    refine ab_Wsz fun hH => ?_
    have hHz := ab_size a1 a3 hsz a5 hH
    refine ab_back (v := v) (hp2 := hp2) (mc := hp2.length - hp.length) (ms := ab_szs hp2 - ab_szs hp) (rest := st.drop n) hv (va_runS (As := ((st.take n).reverse).map (ab_v B rv)) ⟨hx, hb, hml, hown, hts⟩ hM ⟨callB_of n hts (ab_good_code m1) rfl rfl rfl (hts _ w3) (hts _ w1) ⟨m6, m7, hnp⟩ ⟨hRd.1, by show 8 + (nl + 11) + 41 * d ≤ _; omega⟩, hts _ w2⟩ ⟨ab_blind hX _, ab_pre hX hK hro hsz a1 a2 a3 hHz⟩ rfl (by simp only [List.length_map, List.length_reverse, List.length_take]; omega) a4.size ?_ ?_ hd ⟨?_, ?_⟩) a3 a4 ?_ ?_ k
    · show st.map (ab_v B rv) = _
      rw [ab_take_rev, ← List.map_take, ← List.map_append, List.take_append_drop]
    · exact lv_room (ab_cats _ hl4)
    · have := hle.1
      omega
    · have := hle.2
      omega
    · have := hle.1
      omega
    · have := hle.2
      omega
  · -- an object's method, a constructor
    obtain ⟨e1, a, rest2, fs, hdr, ha, hn, hl4, e3⟩ := zs
    cases e3
    have hkd : kd ≤ 3 ∧ kd ≠ 1 := by
      rcases e1 with ⟨zk, _⟩ | ⟨zk | zk, _⟩
      · rw [zk]; exact ⟨by decide, by decide⟩
      · rw [zk]; exact ⟨by decide, by decide⟩
      · rw [zk]; exact ⟨by decide, by decide⟩
    obtain ⟨y, b, nl, rt2, cn2, hq, hnp, hrec, hini⟩ := hc3 hkd.1
    obtain ⟨T, N, hvw⟩ := hrec hkd.2
    obtain ⟨m1, m2, m3, m4, m5, m6, m7, m8⟩ := ab_m_ok hq
    have hM := hM y b nl rt2 cn2 hq
    intro H locs cells slots als a1 a2 a3 a4 a5 a6
    refine ab_Wsz fun hH => ?_
    have hHz := ab_size a1 a3 hsz a5 hH
    have hst : st.map (ab_v B rv) = (((st.take n).reverse.map (ab_v B rv)).reverse) ++ .ref (B + a) :: rest.map (ab_v B rv) := by
      rw [ab_take_rev, ← List.map_take, ← ab_ad_lt (B := B) (rv := rv) ha a2]
      have e9 : st.map (ab_v B rv) = (st.take n ++ st.drop n).map (ab_v B rv) := by rw [List.take_append_drop]
      rw [e9, hdr, List.map_append]
      rfl
    have hav : (Value.ref a :: (st.take n).reverse).map (ab_v B rv) = .ref (B + a) :: (st.take n).reverse.map (ab_v B rv) := by
      simp only [List.map_cons, ab_v]
      rw [ab_ad_lt ha a2]
    rw [hav] at hM
    have hlen : ((st.take n).reverse.map (ab_v B rv)).length = n := by simp only [List.length_map, List.length_reverse, List.length_take]; omega
    have hle1 := hle.1
    have hle2 := hle.2
    rcases e1 with ⟨e1, e2⟩ | ⟨e1 | e1, e2⟩
    · subst e1
      subst e2
      have hi9 : i = .invokevirtual k0 := by
        rcases hiv with ⟨_, e⟩ | ⟨e, _⟩ | ⟨e, _⟩
        · exact e
        · cases e
        · cases e
      subst hi9
      have w1 := hcw (.methodLink (ab_cl cn) k0 y) (by simp [ab_cw, m8])
      have w2 := hcw (.instanceMethod y) (by simp [ab_cw, m8])
      have w3 := hcw (.selects y.cls y y) (by simp [ab_cw, m8])
      have w4 := hcw (.initialized y.cls) (by simp [ab_cw, m8])
      refine ab_back (v := v) (hp2 := hp2) (mc := hp2.length - hp.length) (ms := ab_szs hp2 - ab_szs hp) (rest := rest) hv (va_runV (C := y.cls) (b := B + a) (As := ((st.take n).reverse).map (ab_v B rv)) ⟨hx, hb, hml, hown, hts⟩ hM ⟨callB_of n hts (ab_good_code m1) rfl rfl rfl (hts _ w4) (hts _ w1) ⟨m6, m7, hnp⟩ ⟨hRd.1, by show 8 + (nl + 11) + 41 * d ≤ _; omega⟩, hts _ w2, hts _ w3⟩ ⟨ab_blind hX _, va_recv hK a1 hvw (ab_w_at ha), ab_pre hX hK hro hsz a1 a2 a3 hHz⟩ rfl hlen a4.size hst (lv_room (ab_cats _ hl4)) hd ⟨by omega, by omega⟩) a3 a4 (by omega) (by omega) k
    · subst e1
      subst e2
      have hi9 : i = .invokespecial k0 := by
        rcases hiv with ⟨e, _⟩ | ⟨e, _⟩ | ⟨_, e⟩
        · cases e
        · cases e
        · exact e
      subst hi9
      obtain ⟨hyn, hrt⟩ := hini (by omega)
      subst hrt
      have w1 := hcw (.methodLink (ab_cl cn) k0 y) (by simp [ab_cw, m8])
      have w2 := hcw (.instanceMethod y) (by simp [ab_cw, m8])
      have w4 := hcw (.initialized y.cls) (by simp [ab_cw, m8])
      refine ab_back (v := v) (hp2 := hp2) (mc := hp2.length - hp.length) (ms := ab_szs hp2 - ab_szs hp) (rest := rest) hv (va_runI (b := B + a) (As := ((st.take n).reverse).map (ab_v B rv)) ⟨hx, hb, hml, hown, hts⟩ hM ⟨callB_of n hts (ab_good_code m1) rfl rfl rfl (hts _ w4) (hts _ w1) ⟨m6, m7, hnp⟩ ⟨hRd.1, by show 8 + (nl + 11) + 41 * d ≤ _; omega⟩, hyn, hts _ w2⟩ ⟨ab_blind hX _, ab_pre hX hK hro hsz a1 a2 a3 hHz⟩ rfl hlen a4.size hst (lv_room (ab_cats _ hl4)) hd ⟨by omega, by omega⟩) a3 a4 (by omega) (by omega) k
    · subst e1
      subst e2
      have hi9 : i = .invokespecial k0 := by
        rcases hiv with ⟨e, _⟩ | ⟨e, _⟩ | ⟨_, e⟩
        · cases e
        · cases e
        · exact e
      subst hi9
      obtain ⟨hyn, hrt⟩ := hini (by omega)
      subst hrt
      have w2 := hcw (.instanceMethod y) (by simp [ab_cw, m8])
      have w4 := hcw (.initialized y.cls) (by simp [ab_cw, m8])
      have hnest : Jvm.Cond.methodLinkNest (ab_cl cn) k0 y "FairLabels" ∈ ab_nest := ab_nest_of hF hq
      refine ab_back (v := v) (hp2 := hp2) (mc := hp2.length - hp.length) (ms := ab_szs hp2 - ab_szs hp) (rest := rest) hv (va_runIN (b := B + a) (As := ((st.take n).reverse).map (ab_v B rv)) ⟨hx, hb, hml, hown, hts⟩ hM ⟨va_cnB (host := "FairLabels") n hts (ab_good_code m1) rfl rfl rfl (hro.2.2.1 _ hnest) (hts _ w4) ⟨m6, m7, hnp⟩ ⟨hRd.1, by show 8 + (nl + 11) + 41 * d ≤ _; omega⟩, hyn, hts _ w2⟩ ⟨ab_blind hX _, ab_pre hX hK hro hsz a1 a2 a3 hHz⟩ rfl hlen a4.size hst (lv_room (ab_cats _ hl4)) hd ⟨by omega, by omega⟩) a3 a4 (by omega) (by omega) k
  · obtain ⟨-, -, _, _, -, -, e3⟩ := zs; cases e3
  · obtain ⟨-, -, _, _, _, -, -, e3⟩ := zs; cases e3
  · obtain ⟨-, -, _, _, _, -, -, e3⟩ := zs; cases e3
  · obtain ⟨-, -, _, _, -, -, e3⟩ := zs; cases e3
  · obtain ⟨-, -, e3⟩ := zs
    obtain ⟨_, _, _, _, _, _, _, _, -, -, -, -, -, -, -, -, -, e4⟩ := ab_acp_inv e3
    cases e4
  · -- texts
    obtain ⟨e1, e2, hm9, a, rest2, hdr, hn, hl4, e3⟩ := zs
    cases e3
    subst e1
    subst e2
    have hi9 : i = .invokevirtual k0 := by
      rcases hiv with ⟨_, e⟩ | ⟨e, _⟩ | ⟨e, _⟩
      · exact e
      · cases e
      · cases e
    subst hi9
    obtain ⟨hd7, zh, hpr⟩ := hpr hm9
    subst zh
    intro H locs cells slots als a1 a2 a3 a4 a5 a6
    have hst : st.map (ab_v B rv) = (((st.take n).reverse.map (ab_v B rv)).reverse) ++ .ref (ab_ad B rv a) :: rest.map (ab_v B rv) := by
      rw [ab_take_rev, ← List.map_take]
      have e9 : st.map (ab_v B rv) = (st.take n ++ st.drop n).map (ab_v B rv) := by rw [List.take_append_drop]
      rw [e9, hdr, List.map_append]
      rfl
    rw [hst]
    refine hX.2.2.2 hx hb (by rw [a4.size]; exact hml) hro.2.2.2.2 hown hts hF hd (by omega) (by omega) (by omega) (by omega) a3 (ab_cats _ hl4) (by simp only [List.length_reverse, List.length_take]; omega) hpr (fun locs1 b3 => ?_)
    have kk := k H locs1 cells slots als a1 a2 b3 a4 a5 a6
    rw [List.map_append] at kk
    rcases hv with e9 | ⟨r, e9⟩ <;> subst e9 <;> exact kk
end ABV
