/-! THE SMALL MACHINE AS EQUATIONS: a row an instruction -/
def ab_c1 (v : Value) : Bool := match v with
  | .long _ => false
  | .double _ => false
  | _ => true
theorem ab_c1_int (x : Int32) : ab_c1 (.int x) = true := rfl
theorem ab_c1_ref (x : Nat) : ab_c1 (.ref x) = true := rfl
theorem ab_c1_null : ab_c1 .null = true := rfl
theorem ab_nl_c1 {l : List Value} {j : Nat} {v : Value} (h : l[j]? = some v) (hc : ab_c1 v = true) : ab_nl l (j + 1) = true := by
  simp only [ab_nl, h]
  cases v <;> first | rfl | cases hc
/-- a field -/
def ab_fld (hp : ab_H) (a ci k : Nat) : Option Value := match hp[a]? with
  | some (.inr (.inr (c, fs))) => if c = ci then fs[k]? else none
  | _ => none
def ab_fpt (hp : ab_H) (a ci k : Nat) (v : Value) : Option ab_H := match hp[a]? with
  | some (.inr (.inr (c, fs))) => if c = ci ∧ k < fs.length then some (hp.set a (.inr (.inr (c, fs.set k v)))) else none
  | _ => none
def ab_ard (rom : List (List Int32)) (t : Nat) (hp : ab_H) (a : Nat) (i : Int32) : Option Int32 := match ab_arr rom t hp a with
  | some xs => if ¬ i < 0 then xs[i.toNatClampNeg]? else none
  | none => none
def ab_awr (t : Nat) (hp : ab_H) (a : Nat) (i v : Int32) : Option ab_H := match hp[a]? with
  | some (.inl (t', xs)) => if t' = t ∧ ¬ i < 0 ∧ i.toNatClampNeg < xs.length then some (hp.set a (.inl (t', xs.set i.toNatClampNeg v))) else none
  | _ => none
def ab_rrd (hp : ab_H) (a : Nat) (i : Int32) : Option Nat := match hp[a]? with
  | some (.inr (.inl rs)) => if ¬ i < 0 then (match rs[i.toNatClampNeg]? with
    | some (some v) => some v
    | _ => none) else none
  | _ => none
def ab_rwr (hp : ab_H) (a : Nat) (i : Int32) (v : Nat) : Option ab_H := match hp[a]?, hp[v]? with
  | some (.inr (.inl rs)), some (.inr (.inr (1, _))) => if ¬ i < 0 ∧ i.toNatClampNeg < rs.length then some (hp.set a (.inr (.inl (rs.set i.toNatClampNeg (some v))))) else none
  | _, _ => none
def ab_aln (rom : List (List Int32)) (hp : ab_H) (a : Nat) : Option Int32 := match hp[a]? with
  | some (.inl (0, xs)) => some (Int32.ofNat xs.length)
  | some _ => none
  | none => if ab_RO ≤ a then (match rom[a - ab_RO]? with
    | some xs => some (Int32.ofNat xs.length)
    | none => none) else none
def ab_iso (hp : ab_H) (a ci : Nat) : Bool := match hp[a]? with
  | some (.inr (.inr (c, _))) => decide (c = ci)
  | _ => false
def ab_cp (hp : ab_H) (a b : Nat) (sp dp n : Int32) : Option ab_H := match hp[a]?, hp[b]? with
  | some (.inl (0, xs)), some (.inl (0, ys)) => if ¬ sp < 0 ∧ ¬ dp < 0 ∧ ¬ n < 0 ∧ sp.toNatClampNeg + n.toNatClampNeg ≤ xs.length ∧ dp.toNatClampNeg + n.toNatClampNeg ≤ ys.length then some (hp.set b (.inl (0, ab_cpy xs ys sp.toNatClampNeg dp.toNatClampNeg n.toNatClampNeg))) else none
  | _, _ => none
section ABR
variable {rom : List (List Int32)} {K : Nat → List Value → ab_H → Option ab_O} {b : ByteArray} {cn rt pc pc' : Nat} {ls ls' st : List Value} {hp : ab_H} {x y : Int32} {a : Nat}
theorem ax_iload {k : Nat} (hd : decode b pc = .ok (.iload k, 2)) (h : ls[k]? = some (.int x)) (e : pc + 2 = pc') : ab_X rom K b cn rt pc ls st hp = ab_X rom K b cn rt pc' ls (.int x :: st) hp := by
  subst e
  rw [ab_X_step hd]
  simp [ab_s, ab_ild, h, ab_go, ab_next]
theorem ax_iload_n {k : Fin 4} (hd : decode b pc = .ok (.iload_n k, 1)) (h : ls[k.val]? = some (.int x)) (e : pc + 1 = pc') : ab_X rom K b cn rt pc ls st hp = ab_X rom K b cn rt pc' ls (.int x :: st) hp := by
  subst e
  rw [ab_X_step hd]
  simp [ab_s, ab_ild, h, ab_go, ab_next]
theorem ax_aload {k : Nat} (hd : decode b pc = .ok (.aload k, 2)) (h : ls[k]? = some (.ref a)) (e : pc + 2 = pc') : ab_X rom K b cn rt pc ls st hp = ab_X rom K b cn rt pc' ls (.ref a :: st) hp := by
  subst e
  rw [ab_X_step hd]
  simp [ab_s, ab_ald, h, ab_go, ab_next]
theorem ax_aload_n {k : Fin 4} (hd : decode b pc = .ok (.aload_n k, 1)) (h : ls[k.val]? = some (.ref a)) (e : pc + 1 = pc') : ab_X rom K b cn rt pc ls st hp = ab_X rom K b cn rt pc' ls (.ref a :: st) hp := by
  subst e
  rw [ab_X_step hd]
  simp [ab_s, ab_ald, h, ab_go, ab_next]
theorem ax_lload {k : Nat} {v : Int64} (hd : decode b pc = .ok (.lload k, 2)) (h : ls[k]? = some (.long v)) (e : pc + 2 = pc') : ab_X rom K b cn rt pc ls st hp = ab_X rom K b cn rt pc' ls (.long v :: st) hp := by
  subst e
  rw [ab_X_step hd]
  simp [ab_s, ab_lld, h, ab_go, ab_next]
theorem ax_lload_n {k : Fin 4} {v : Int64} (hd : decode b pc = .ok (.lload_n k, 1)) (h : ls[k.val]? = some (.long v)) (e : pc + 1 = pc') : ab_X rom K b cn rt pc ls st hp = ab_X rom K b cn rt pc' ls (.long v :: st) hp := by
  subst e
  rw [ab_X_step hd]
  simp [ab_s, ab_lld, h, ab_go, ab_next]
theorem ax_istore {k : Nat} (hd : decode b pc = .ok (.istore k, 2)) (h1 : k < ls.length) (h2 : ab_nl ls k = true) (h3 : ls.set k (.int x) = ls') (e : pc + 2 = pc') : ab_X rom K b cn rt pc ls (.int x :: st) hp = ab_X rom K b cn rt pc' ls' st hp := by
  subst e; subst h3
  rw [ab_X_step hd]
  simp [ab_s, ab_ist, h1, h2, ab_go, ab_next]
theorem ax_istore_n {k : Fin 4} (hd : decode b pc = .ok (.istore_n k, 1)) (h1 : k.val < ls.length) (h2 : ab_nl ls k.val = true) (h3 : ls.set k.val (.int x) = ls') (e : pc + 1 = pc') : ab_X rom K b cn rt pc ls (.int x :: st) hp = ab_X rom K b cn rt pc' ls' st hp := by
  subst e; subst h3
  rw [ab_X_step hd]
  simp [ab_s, ab_ist, h1, h2, ab_go, ab_next]
theorem ax_astore {k : Nat} (hd : decode b pc = .ok (.astore k, 2)) (h1 : k < ls.length) (h2 : ab_nl ls k = true) (h3 : ls.set k (.ref a) = ls') (e : pc + 2 = pc') : ab_X rom K b cn rt pc ls (.ref a :: st) hp = ab_X rom K b cn rt pc' ls' st hp := by
  subst e; subst h3
  rw [ab_X_step hd]
  simp [ab_s, ab_ast, h1, h2, ab_go, ab_next]
theorem ax_astore_n {k : Fin 4} (hd : decode b pc = .ok (.astore_n k, 1)) (h1 : k.val < ls.length) (h2 : ab_nl ls k.val = true) (h3 : ls.set k.val (.ref a) = ls') (e : pc + 1 = pc') : ab_X rom K b cn rt pc ls (.ref a :: st) hp = ab_X rom K b cn rt pc' ls' st hp := by
  subst e; subst h3
  rw [ab_X_step hd]
  simp [ab_s, ab_ast, h1, h2, ab_go, ab_next]
theorem ax_iinc {k : Nat} {n : Int} {v : Int32} (hd : decode b pc = .ok (.iinc k n, 3)) (h0 : ls[k]? = some (.int x)) (h2 : ab_nl ls k = true) (hv : Int32.ofInt n = v) (h3 : ls.set k (.int (x + v)) = ls') (e : pc + 3 = pc') : ab_X rom K b cn rt pc ls st hp = ab_X rom K b cn rt pc' ls' st hp := by
  subst e; subst hv; subst h3
  have h1 : k < ls.length := (List.getElem?_eq_some_iff.mp h0).1
  rw [ab_X_step hd]
  simp only [ab_s, ab_inc, if_true, h0]
  rw [if_pos ⟨h1, h2⟩]
  rfl
theorem ax_iconst {n : Int} (hd : decode b pc = .ok (.iconst n, 1)) (h : Int32.ofInt n = x) (e : pc + 1 = pc') : ab_X rom K b cn rt pc ls st hp = ab_X rom K b cn rt pc' ls (.int x :: st) hp := by
  subst e; subst h
  rw [ab_X_step hd]
  simp [ab_s, ab_go, ab_next]
theorem ax_bipush {n : Int} (hd : decode b pc = .ok (.bipush n, 2)) (h : (Int8.ofInt n).toInt32 = x) (e : pc + 2 = pc') : ab_X rom K b cn rt pc ls st hp = ab_X rom K b cn rt pc' ls (.int x :: st) hp := by
  subst e; subst h
  rw [ab_X_step hd]
  simp [ab_s, ab_go, ab_next]
theorem ax_sipush {n : Int} (hd : decode b pc = .ok (.sipush n, 3)) (h : (Int16.ofInt n).toInt32 = x) (e : pc + 3 = pc') : ab_X rom K b cn rt pc ls st hp = ab_X rom K b cn rt pc' ls (.int x :: st) hp := by
  subst e; subst h
  rw [ab_X_step hd]
  simp [ab_s, ab_go, ab_next]
theorem ax_lconst {n : Fin 2} {v : Int64} (hd : decode b pc = .ok (.lconst n, 1)) (h : Int64.ofNat n.val = v) (e : pc + 1 = pc') : ab_X rom K b cn rt pc ls st hp = ab_X rom K b cn rt pc' ls (.long v :: st) hp := by
  subst e; subst h
  rw [ab_X_step hd]
  simp [ab_s, ab_go, ab_next]
theorem ax_ldc {k : Nat} (hd : decode b pc = .ok (.ldc k, 2)) (h : ab_lk ab_kT cn k = some x) (e : pc + 2 = pc') : ab_X rom K b cn rt pc ls st hp = ab_X rom K b cn rt pc' ls (.int x :: st) hp := by
  subst e
  rw [ab_X_step hd]
  simp [ab_s, h, ab_go, ab_next]
theorem ax_ldcs {k j : Nat} (hd : decode b pc = .ok (.ldc k, 2)) (h : ab_lk ab_kT cn k = none) (h2 : ab_lk ab_rT cn k = some j) (e : pc + 2 = pc') : ab_X rom K b cn rt pc ls st hp = ab_X rom K b cn rt pc' ls (.ref (ab_RO + j) :: st) hp := by
  subst e
  rw [ab_X_step hd]
  simp [ab_s, h, h2, ab_go, ab_next]
theorem ax_ldcw {k : Nat} (hd : decode b pc = .ok (.ldc_w k, 3)) (h : ab_lk ab_kT cn k = some x) (e : pc + 3 = pc') : ab_X rom K b cn rt pc ls st hp = ab_X rom K b cn rt pc' ls (.int x :: st) hp := by
  subst e
  rw [ab_X_step hd]
  simp [ab_s, h, ab_go, ab_next]
theorem ax_ldc2 {k : Nat} {v : Int64} (hd : decode b pc = .ok (.ldc2_w k, 3)) (h : ab_lk ab_lT cn k = some v) (e : pc + 3 = pc') : ab_X rom K b cn rt pc ls st hp = ab_X rom K b cn rt pc' ls (.long v :: st) hp := by
  subst e
  rw [ab_X_step hd]
  simp [ab_s, h, ab_go, ab_next]
theorem ax_i2l (hd : decode b pc = .ok (.i2l, 1)) (e : pc + 1 = pc') : ab_X rom K b cn rt pc ls (.int x :: st) hp = ab_X rom K b cn rt pc' ls (.long x.toInt64 :: st) hp := by
  subst e
  rw [ab_X_step hd]
  simp [ab_s, ab_go, ab_next]
theorem ax_lcmp {v w : Int64} (hd : decode b pc = .ok (.lcmp, 1)) (e : pc + 1 = pc') : ab_X rom K b cn rt pc ls (.long w :: .long v :: st) hp = ab_X rom K b cn rt pc' ls (.int (lg_cmp v w) :: st) hp := by
  subst e
  rw [ab_X_step hd]
  simp [ab_s, ab_go, ab_next]
theorem ax_ineg (hd : decode b pc = .ok (.ineg, 1)) (e : pc + 1 = pc') : ab_X rom K b cn rt pc ls (.int x :: st) hp = ab_X rom K b cn rt pc' ls (.int (-x) :: st) hp := by
  subst e
  rw [ab_X_step hd]
  simp [ab_s, ab_go, ab_next]
theorem ax_dup {v : Value} (hd : decode b pc = .ok (.dup, 1)) (e : pc + 1 = pc') (hc : ab_c1 v = true) : ab_X rom K b cn rt pc ls (v :: st) hp = ab_X rom K b cn rt pc' ls (v :: v :: st) hp := by
  subst e
  rw [ab_X_step hd]
  have h : v.category = 1 := by cases v <;> first | rfl | cases hc
  simp [ab_s, h, ab_go, ab_next]
theorem ax_dup2 {v w : Value} (hd : decode b pc = .ok (.dup2, 1)) (e : pc + 1 = pc') (hc : ab_c1 v = true) (hc2 : ab_c1 w = true) : ab_X rom K b cn rt pc ls (v :: w :: st) hp = ab_X rom K b cn rt pc' ls (v :: w :: v :: w :: st) hp := by
  subst e
  rw [ab_X_step hd]
  have h : v.category = 1 := by cases v <;> first | rfl | cases hc
  have h2 : w.category = 1 := by cases w <;> first | rfl | cases hc2
  simp [ab_s, h, h2, ab_go, ab_next]
theorem ax_iadd (hd : decode b pc = .ok (.iadd, 1)) (e : pc + 1 = pc') : ab_X rom K b cn rt pc ls (.int y :: .int x :: st) hp = ab_X rom K b cn rt pc' ls (.int (x + y) :: st) hp := by
  subst e; rw [ab_X_step hd]; rfl
theorem ax_isub (hd : decode b pc = .ok (.isub, 1)) (e : pc + 1 = pc') : ab_X rom K b cn rt pc ls (.int y :: .int x :: st) hp = ab_X rom K b cn rt pc' ls (.int (x - y) :: st) hp := by
  subst e; rw [ab_X_step hd]; rfl
theorem ax_imul (hd : decode b pc = .ok (.imul, 1)) (e : pc + 1 = pc') : ab_X rom K b cn rt pc ls (.int y :: .int x :: st) hp = ab_X rom K b cn rt pc' ls (.int (x * y) :: st) hp := by
  subst e; rw [ab_X_step hd]; rfl
theorem ax_iand (hd : decode b pc = .ok (.iand, 1)) (e : pc + 1 = pc') : ab_X rom K b cn rt pc ls (.int y :: .int x :: st) hp = ab_X rom K b cn rt pc' ls (.int (x &&& y) :: st) hp := by
  subst e; rw [ab_X_step hd]; rfl
theorem ax_ior (hd : decode b pc = .ok (.ior, 1)) (e : pc + 1 = pc') : ab_X rom K b cn rt pc ls (.int y :: .int x :: st) hp = ab_X rom K b cn rt pc' ls (.int (x ||| y) :: st) hp := by
  subst e; rw [ab_X_step hd]; rfl
theorem ax_ixor (hd : decode b pc = .ok (.ixor, 1)) (e : pc + 1 = pc') : ab_X rom K b cn rt pc ls (.int y :: .int x :: st) hp = ab_X rom K b cn rt pc' ls (.int (x ^^^ y) :: st) hp := by
  subst e; rw [ab_X_step hd]; rfl
theorem ax_ishl (hd : decode b pc = .ok (.ishl, 1)) (e : pc + 1 = pc') : ab_X rom K b cn rt pc ls (.int y :: .int x :: st) hp = ab_X rom K b cn rt pc' ls (.int (x <<< (y &&& 31)) :: st) hp := by
  subst e; rw [ab_X_step hd]; rfl
theorem ax_ishr (hd : decode b pc = .ok (.ishr, 1)) (e : pc + 1 = pc') : ab_X rom K b cn rt pc ls (.int y :: .int x :: st) hp = ab_X rom K b cn rt pc' ls (.int (x >>> (y &&& 31)) :: st) hp := by
  subst e; rw [ab_X_step hd]; rfl
theorem ax_iushr (hd : decode b pc = .ok (.iushr, 1)) (e : pc + 1 = pc') : ab_X rom K b cn rt pc ls (.int y :: .int x :: st) hp = ab_X rom K b cn rt pc' ls (.int (x.toUInt32 >>> (y.toUInt32 &&& Int32.toUInt32 31)).toInt32 :: st) hp := by
  subst e; rw [ab_X_step hd]; rfl
theorem ax_idiv (hd : decode b pc = .ok (.idiv, 1)) (e : pc + 1 = pc') (h : ¬ y = 0) : ab_X rom K b cn rt pc ls (.int y :: .int x :: st) hp = ab_X rom K b cn rt pc' ls (.int (x / y) :: st) hp := by
  subst e
  rw [ab_X_step hd]
  simp [ab_s, ab_bin, h, ab_go, ab_next]
theorem ax_irem (hd : decode b pc = .ok (.irem, 1)) (e : pc + 1 = pc') (h : ¬ y = 0) : ab_X rom K b cn rt pc ls (.int y :: .int x :: st) hp = ab_X rom K b cn rt pc' ls (.int (ab_rem x y) :: st) hp := by
  subst e
  rw [ab_X_step hd]
  simp [ab_s, ab_bin, h, ab_go, ab_next]
theorem ax_goto {off : Int} (hd : decode b pc = .ok (.goto off, 3)) (e : (pc : Int) + off = (pc' : Int)) : ab_X rom K b cn rt pc ls st hp = ab_X rom K b cn rt pc' ls st hp := by
  rw [ab_X_step hd]
  simp [ab_s, ab_jmp, e, ab_go, ab_next]
theorem ax_icmp {off : Int} {tgt : Nat} {q : Jvm.ClassFile.Cond} (hd : decode b pc = .ok (.if_icmp q off, 3)) (e : (pc : Int) + off = (tgt : Int)) (e2 : pc + 3 = pc') : ab_X rom K b cn rt pc ls (.int y :: .int x :: st) hp = if ab_cmp q x y = true then ab_X rom K b cn rt tgt ls st hp else ab_X rom K b cn rt pc' ls st hp := by
  subst e2
  rw [ab_X_step hd]
  simp only [ab_s, if_true, ab_br, e, Int.natCast_nonneg, Int.toNat_natCast]
  split <;> simp_all [ab_go, ab_next]
theorem ax_if {off : Int} {tgt : Nat} {q : Jvm.ClassFile.Cond} (hd : decode b pc = .ok (.ifCond q off, 3)) (e : (pc : Int) + off = (tgt : Int)) (e2 : pc + 3 = pc') : ab_X rom K b cn rt pc ls (.int x :: st) hp = if ab_cmp q x 0 = true then ab_X rom K b cn rt tgt ls st hp else ab_X rom K b cn rt pc' ls st hp := by
  subst e2
  rw [ab_X_step hd]
  simp only [ab_s, if_true, ab_br, e, Int.natCast_nonneg, Int.toNat_natCast]
  split <;> simp_all [ab_go, ab_next]
theorem ax_tsw_out {dflt lo hi : Int} {offs : Array Int} {len tgt : Nat} (hd : decode b pc = .ok (.tableswitch dflt lo hi offs, len)) (e : (pc : Int) + dflt = (tgt : Int)) (h : x.toInt < lo ∨ hi < x.toInt) : ab_X rom K b cn rt pc ls (.int x :: st) hp = ab_X rom K b cn rt tgt ls st hp := by
  rw [ab_X_step hd]
  simp [ab_s, h, ab_jmp, e, ab_go, ab_next]
theorem ax_tsw_in {dflt lo hi off : Int} {offs : Array Int} {len tgt : Nat} (hd : decode b pc = .ok (.tableswitch dflt lo hi offs, len)) (h : ¬ (x.toInt < lo ∨ hi < x.toInt)) (ho : offs[(x.toInt - lo).toNat]? = some off) (e : (pc : Int) + off = (tgt : Int)) : ab_X rom K b cn rt pc ls (.int x :: st) hp = ab_X rom K b cn rt tgt ls st hp := by
  rw [ab_X_step hd]
  simp only [ab_s]
  rw [if_neg h, ho]
  simp [ab_jmp, e, ab_go, ab_next]
theorem ax_getfield {idx ci k fin tc : Nat} (hd : decode b pc = .ok (.getfield idx, 3)) (hF : ab_lk ab_fT cn idx = some (ci, k, fin, tc)) (e : pc + 3 = pc') : ab_X rom K b cn rt pc ls (.ref a :: st) hp = (ab_fld hp a ci k).bind (fun v => ab_X rom K b cn rt pc' ls (v :: st) hp) := by
  subst e
  rw [ab_X_step hd]
  simp only [ab_s, hF, ab_gf, ab_fld, if_true]
  cases hp[a]? with
  | none => rfl
  | some q =>
    match q with
    | .inl _ => rfl
    | .inr (.inl _) => rfl
    | .inr (.inr (c, fs)) =>
      by_cases hc : c = ci
      · simp only [hc, if_true]
        cases fs[k]? <;> rfl
      · simp [hc, ab_next]
theorem ax_putfield {idx ci k fin tc : Nat} {v : Value} (hd : decode b pc = .ok (.putfield idx, 3)) (hF : ab_lk ab_fT cn idx = some (ci, k, fin, tc)) (e : pc + 3 = pc') (hfin : fin = 0 ∨ (rt = 3 ∧ cn = ci)) (hv : ab_ft tc v = true) : ab_X rom K b cn rt pc ls (v :: .ref a :: st) hp = (ab_fpt hp a ci k v).bind (fun hp' => ab_X rom K b cn rt pc' ls st hp') := by
  subst e
  rw [ab_X_step hd]
  simp only [ab_s, hF, ab_pf, ab_fpt, if_true]
  cases hp[a]? with
  | none => rfl
  | some q =>
    match q with
    | .inl _ => rfl
    | .inr (.inl _) => rfl
    | .inr (.inr (c, fs)) =>
      by_cases hc : c = ci ∧ k < fs.length
      · simp [hc.1, hc.2, hfin, hv, ab_go, ab_next]
      · have h2 : ¬ (c = ci ∧ k < fs.length ∧ (fin = 0 ∨ (rt = 3 ∧ cn = ci)) ∧ ab_ft tc v = true) := fun h => hc ⟨h.1, h.2.1⟩
        simp only [if_neg hc, if_neg h2]
        rfl
theorem ax_getstatic {idx j : Nat} (hd : decode b pc = .ok (.getstatic idx, 3)) (hF : ab_lk ab_sT cn idx = some j) (e : pc + 3 = pc') : ab_X rom K b cn rt pc ls st hp = ab_X rom K b cn rt pc' ls (.ref (ab_RO + j) :: st) hp := by
  subst e
  rw [ab_X_step hd]
  simp [ab_s, hF, ab_go, ab_next]
theorem ax_iaload (hd : decode b pc = .ok (.iaload, 1)) (e : pc + 1 = pc') : ab_X rom K b cn rt pc ls (.int x :: .ref a :: st) hp = (ab_ard rom 0 hp a x).bind (fun v => ab_X rom K b cn rt pc' ls (.int v :: st) hp) := by
  subst e
  rw [ab_X_step hd]
  simp only [ab_s, ab_xld, ab_ard, if_true]
  cases ab_arr rom 0 hp a with
  | none => rfl
  | some xs =>
    by_cases h : x < 0
    · simp [h, ab_next]
    · simp only [h, not_false_eq_true, if_true]
      cases xs[x.toNatClampNeg]? <;> rfl
theorem ax_baload (hd : decode b pc = .ok (.baload, 1)) (e : pc + 1 = pc') : ab_X rom K b cn rt pc ls (.int x :: .ref a :: st) hp = (ab_ard rom 1 hp a x).bind (fun v => ab_X rom K b cn rt pc' ls (.int v :: st) hp) := by
  subst e
  rw [ab_X_step hd]
  simp only [ab_s, ab_xld, ab_ard, if_true]
  cases ab_arr rom 1 hp a with
  | none => rfl
  | some xs =>
    by_cases h : x < 0
    · simp [h, ab_next]
    · simp only [h, not_false_eq_true, if_true]
      cases xs[x.toNatClampNeg]? <;> rfl
theorem ax_iastore (hd : decode b pc = .ok (.iastore, 1)) (e : pc + 1 = pc') : ab_X rom K b cn rt pc ls (.int y :: .int x :: .ref a :: st) hp = (ab_awr 0 hp a x y).bind (fun hp' => ab_X rom K b cn rt pc' ls st hp') := by
  subst e
  rw [ab_X_step hd]
  simp only [ab_s, ab_xst, ab_awr, if_true]
  cases hp[a]? with
  | none => rfl
  | some q =>
    match q with
    | .inr _ => rfl
    | .inl (t, xs) =>
      by_cases hc : t = 0 ∧ ¬ x < 0 ∧ x.toNatClampNeg < xs.length
      · simp [hc.1, hc.2.1, hc.2.2, ab_ft, ab_go, ab_next]
      · have h2 : ¬ (t = 0 ∧ ¬ x < 0 ∧ x.toNatClampNeg < xs.length ∧ ab_ft 0 (.int y) = true) := fun h => hc ⟨h.1, h.2.1, h.2.2.1⟩
        simp only [if_neg hc, if_neg h2]
        rfl
theorem ax_bastore (hd : decode b pc = .ok (.bastore, 1)) (e : pc + 1 = pc') (hv : y = 0 ∨ y = 1) : ab_X rom K b cn rt pc ls (.int y :: .int x :: .ref a :: st) hp = (ab_awr 1 hp a x y).bind (fun hp' => ab_X rom K b cn rt pc' ls st hp') := by
  subst e
  rw [ab_X_step hd]
  simp only [ab_s, ab_xst, ab_awr, if_true]
  cases hp[a]? with
  | none => rfl
  | some q =>
    match q with
    | .inr _ => rfl
    | .inl (t, xs) =>
      by_cases hc : t = 1 ∧ ¬ x < 0 ∧ x.toNatClampNeg < xs.length
      · simp [hc.1, hc.2.1, hc.2.2, ab_ft, hv, ab_go, ab_next]
      · have h2 : ¬ (t = 1 ∧ ¬ x < 0 ∧ x.toNatClampNeg < xs.length ∧ ab_ft 1 (.int y) = true) := fun h => hc ⟨h.1, h.2.1, h.2.2.1⟩
        simp only [if_neg hc, if_neg h2]
        rfl
theorem ax_aaload (hd : decode b pc = .ok (.aaload, 1)) (e : pc + 1 = pc') : ab_X rom K b cn rt pc ls (.int x :: .ref a :: st) hp = (ab_rrd hp a x).bind (fun v => ab_X rom K b cn rt pc' ls (.ref v :: st) hp) := by
  subst e
  rw [ab_X_step hd]
  simp only [ab_s, ab_rld, ab_rrd, if_true]
  cases hp[a]? with
  | none => rfl
  | some q =>
    match q with
    | .inl _ => rfl
    | .inr (.inr _) => rfl
    | .inr (.inl rs) =>
      by_cases h : x < 0
      · simp [h, ab_next]
      · simp only [h, not_false_eq_true, if_true]
        match rs[x.toNatClampNeg]? with
        | none => rfl
        | some none => rfl
        | some (some v) => rfl
theorem ax_arraylength (hd : decode b pc = .ok (.arraylength, 1)) (e : pc + 1 = pc') : ab_X rom K b cn rt pc ls (.ref a :: st) hp = (ab_aln rom hp a).bind (fun v => ab_X rom K b cn rt pc' ls (.int v :: st) hp) := by
  subst e
  rw [ab_X_step hd]
  simp only [ab_s, ab_len, ab_aln, if_true]
  match hp[a]? with
  | some (.inl (0, xs)) => rfl
  | some (.inl (n + 1, xs)) => rfl
  | some (.inr _) => rfl
  | none =>
    by_cases h : ab_RO ≤ a
    · simp only [h, if_true]
      cases rom[a - ab_RO]? <;> rfl
    · simp [h, ab_next]
theorem ax_newint (hd : decode b pc = .ok (.newarray .int, 2)) (e : pc + 2 = pc') (h0 : ¬ x < 0) (h1 : x.toNatClampNeg ≤ 1000) (h2 : hp.length < ab_RO) : ab_X rom K b cn rt pc ls (.int x :: st) hp = ab_X rom K b cn rt pc' ls (.ref hp.length :: st) (hp ++ [.inl (0, List.replicate x.toNatClampNeg 0)]) := by
  subst e
  rw [ab_X_step hd]
  simp [ab_s, ab_na, h0, h1, h2, ab_go, ab_next]
theorem ax_newbool (hd : decode b pc = .ok (.newarray .boolean, 2)) (e : pc + 2 = pc') (h0 : ¬ x < 0) (h1 : x.toNatClampNeg ≤ 1000) (h2 : hp.length < ab_RO) : ab_X rom K b cn rt pc ls (.int x :: st) hp = ab_X rom K b cn rt pc' ls (.ref hp.length :: st) (hp ++ [.inl (1, List.replicate x.toNatClampNeg 0)]) := by
  subst e
  rw [ab_X_step hd]
  simp [ab_s, ab_na, h0, h1, h2, ab_go, ab_next]
theorem ax_newref {idx : Nat} (hd : decode b pc = .ok (.anewarray idx, 3)) (hF : (ab_lk ab_aT cn idx).isSome = true) (e : pc + 3 = pc') (h0 : ¬ x < 0) (h1 : x.toNatClampNeg ≤ 1000) (h2 : hp.length < ab_RO) : ab_X rom K b cn rt pc ls (.int x :: st) hp = ab_X rom K b cn rt pc' ls (.ref hp.length :: st) (hp ++ [.inr (.inl (List.replicate x.toNatClampNeg none))]) := by
  subst e
  rw [ab_X_step hd]
  simp only [ab_s, hF, if_true]
  simp [ab_nr, h0, h1, h2, ab_go, ab_next]
theorem ax_new {idx ci : Nat} {tcs : List Nat} {fs : List Value} (hd : decode b pc = .ok (.new idx, 3)) (hF : ab_lk ab_nT cn idx = some (ci, tcs)) (hfs : tcs.map ab_dv = fs) (e : pc + 3 = pc') (h2 : hp.length < ab_RO) : ab_X rom K b cn rt pc ls st hp = ab_X rom K b cn rt pc' ls (.ref hp.length :: st) (hp ++ [.inr (.inr (ci, fs))]) := by
  subst e; subst hfs
  rw [ab_X_step hd]
  simp only [ab_s, hF, if_true]
  simp [ab_nw, h2, ab_go, ab_next]
theorem ax_aastore {v : Nat} (hd : decode b pc = .ok (.aastore, 1)) (e : pc + 1 = pc') : ab_X rom K b cn rt pc ls (.ref v :: .int x :: .ref a :: st) hp = (ab_rwr hp a x v).bind (fun hp' => ab_X rom K b cn rt pc' ls st hp') := by
  subst e
  rw [ab_X_step hd]
  simp only [ab_s, ab_rst, ab_rwr, if_true]
  generalize hp[a]? = qa
  generalize hp[v]? = qv
  split
  · split
    · rename_i zq
      simp only [if_pos zq]
      rfl
    · rename_i zq
      simp only [if_neg zq]
      rfl
  · rename_i zq
    split
    · exact (zq _ _ rfl rfl).elim
    · rfl
theorem ax_static {idx mid n ci : Nat} {as : List Value} (hd : decode b pc = .ok (.invokestatic idx, 3)) (hF : ab_lk ab_cT cn idx = some (1, mid, n, ci)) (hn : as.length = n) (e : pc + 3 = pc') (hs : st.length ≤ 4) : ab_X rom K b cn rt pc ls (as.reverse ++ st) hp = (K mid as hp).bind (fun o => ab_X rom K b cn rt pc' ls (o.1.toList ++ st) o.2) := by
  subst e; subst hn
  rw [ab_X_step hd]
  have h1 : (as.reverse ++ st).drop as.length = st := by rw [List.drop_append_of_le_length (by simp)]; simp
  have h2 : ((as.reverse ++ st).take as.length).reverse = as := by rw [List.take_append_of_le_length (by simp), List.take_of_length_le (by simp), List.reverse_reverse]
  simp only [ab_s, hF, ab_call, if_true, and_self, h1, h2, hs, and_true]
  rw [if_pos (by simp)]
  simp only [ab_next]
  cases K mid as hp <;> rfl
theorem ax_virtual {idx mid n ci : Nat} {as : List Value} (hd : decode b pc = .ok (.invokevirtual idx, 3)) (hF : ab_lk ab_cT cn idx = some (0, mid, n, ci)) (hn : as.length = n) (e : pc + 3 = pc') (hs : st.length ≤ 4) (ho : ab_iso hp a ci = true) : ab_X rom K b cn rt pc ls (as.reverse ++ .ref a :: st) hp = (K mid (.ref a :: as) hp).bind (fun o => ab_X rom K b cn rt pc' ls (o.1.toList ++ st) o.2) := by
  subst e; subst hn
  rw [ab_X_step hd]
  have h1 : (as.reverse ++ .ref a :: st).drop as.length = .ref a :: st := by rw [List.drop_append_of_le_length (by simp)]; simp
  have h2 : ((as.reverse ++ .ref a :: st).take as.length).reverse = as := by rw [List.take_append_of_le_length (by simp), List.take_of_length_le (by simp), List.reverse_reverse]
  simp only [ab_s, hF, ab_call, if_true, h1, h2]
  unfold ab_iso at ho
  split at ho
  · rename_i c fs hh
    have hc : c = ci := of_decide_eq_true ho
    simp only [hh]
    rw [if_neg (by simp), if_pos (by simp), if_pos ⟨hc, by simp, hs⟩]
    simp only [ab_next]
    cases K mid (.ref a :: as) hp <;> rfl
  · cases ho
theorem ax_init {idx kd mid n ci : Nat} {as : List Value} (hd : decode b pc = .ok (.invokespecial idx, 3)) (hF : ab_lk ab_cT cn idx = some (kd, mid, n, ci)) (hkd : kd = 2 ∨ kd = 3) (hn : as.length = n) (e : pc + 3 = pc') (hs : st.length ≤ 4) (ho : ab_iso hp a ci = true) : ab_X rom K b cn rt pc ls (as.reverse ++ .ref a :: st) hp = (K mid (.ref a :: as) hp).bind (fun o => ab_X rom K b cn rt pc' ls (o.1.toList ++ st) o.2) := by
  subst e; subst hn
  rw [ab_X_step hd]
  have h1 : (as.reverse ++ .ref a :: st).drop as.length = .ref a :: st := by rw [List.drop_append_of_le_length (by simp)]; simp
  have h2 : ((as.reverse ++ .ref a :: st).take as.length).reverse = as := by rw [List.take_append_of_le_length (by simp), List.take_of_length_le (by simp), List.reverse_reverse]
  simp only [ab_s, hF, ab_call, if_true, h1, h2]
  unfold ab_iso at ho
  split at ho
  · rename_i c fs hh
    have hc : c = ci := of_decide_eq_true ho
    simp only [hh]
    rw [if_neg (by omega), if_pos (Or.inr ⟨hkd, trivial⟩), if_pos ⟨hc, by simp, hs⟩]
    simp only [ab_next]
    cases K mid (.ref a :: as) hp <;> rfl
  · cases ho
theorem ax_obj {idx mid n ci : Nat} (hd : decode b pc = .ok (.invokespecial idx, 3)) (hF : ab_lk ab_cT cn idx = some (4, mid, n, ci)) (e : pc + 3 = pc') (hs : st.length ≤ 4) : ab_X rom K b cn rt pc ls (.ref a :: st) hp = ab_X rom K b cn rt pc' ls st hp := by
  subst e
  rw [ab_X_step hd]
  simp [ab_s, hF, ab_call, hs, ab_go, ab_next]
theorem ax_max {idx mid n ci : Nat} (hd : decode b pc = .ok (.invokestatic idx, 3)) (hF : ab_lk ab_cT cn idx = some (5, mid, n, ci)) (e : pc + 3 = pc') (hs : st.length ≤ 4) : ab_X rom K b cn rt pc ls (.int y :: .int x :: st) hp = ab_X rom K b cn rt pc' ls (.int (ab_max x y) :: st) hp := by
  subst e
  rw [ab_X_step hd]
  simp [ab_s, hF, ab_call, hs, ab_go, ab_next]
theorem ax_min {idx mid n ci : Nat} (hd : decode b pc = .ok (.invokestatic idx, 3)) (hF : ab_lk ab_cT cn idx = some (6, mid, n, ci)) (e : pc + 3 = pc') (hs : st.length ≤ 4) : ab_X rom K b cn rt pc ls (.int y :: .int x :: st) hp = ab_X rom K b cn rt pc' ls (.int (ab_min x y) :: st) hp := by
  subst e
  rw [ab_X_step hd]
  simp [ab_s, hF, ab_call, hs, ab_go, ab_next]
theorem ax_abs {idx mid n ci : Nat} (hd : decode b pc = .ok (.invokestatic idx, 3)) (hF : ab_lk ab_cT cn idx = some (7, mid, n, ci)) (e : pc + 3 = pc') (hs : st.length ≤ 4) : ab_X rom K b cn rt pc ls (.int x :: st) hp = ab_X rom K b cn rt pc' ls (.int (ab_abs x) :: st) hp := by
  subst e
  rw [ab_X_step hd]
  simp [ab_s, hF, ab_call, hs, ab_go, ab_next]
theorem ax_copy {idx mid n ci a2 : Nat} {sp dp m : Int32} (hd : decode b pc = .ok (.invokestatic idx, 3)) (hF : ab_lk ab_cT cn idx = some (8, mid, n, ci)) (e : pc + 3 = pc') (hs : st.length ≤ 4) : ab_X rom K b cn rt pc ls (.int m :: .int dp :: .ref a2 :: .int sp :: .ref a :: st) hp = (ab_cp hp a a2 sp dp m).bind (fun hp' => ab_X rom K b cn rt pc' ls st hp') := by
  subst e
  rw [ab_X_step hd]
  have hc : ∀ st0, ab_call 1 (some (8, mid, n, ci)) pc ls st0 hp = ab_acp pc ls st0 hp := fun st0 => by simp [ab_call]
  simp only [ab_s, hF, if_true]
  rw [hc]
  simp only [ab_acp, ab_cp, hs, and_true]
  generalize hp[a]? = qa
  generalize hp[a2]? = qv
  split
  · split
    · rename_i zq
      simp only [if_pos zq]
      rfl
    · rename_i zq
      simp only [if_neg zq]
      rfl
  · rename_i zq
    split
    · exact (zq _ _ rfl rfl).elim
    · rfl
theorem ax_text {idx mid n ci : Nat} {as : List Value} (hd : decode b pc = .ok (.invokevirtual idx, 3)) (hF : ab_lk ab_cT cn idx = some (9, mid, n, ci)) (hm : 1000 ≤ mid) (hn : as.length = n) (e : pc + 3 = pc') (hs : st.length ≤ 4) : ab_X rom K b cn rt pc ls (as.reverse ++ .ref a :: st) hp = (K mid (.ref a :: as) hp).bind (fun o => ab_X rom K b cn rt pc' ls (o.1.toList ++ st) o.2) := by
  subst e; subst hn
  rw [ab_X_step hd]
  have h1 : (as.reverse ++ .ref a :: st).drop as.length = .ref a :: st := by rw [List.drop_append_of_le_length (by simp)]; simp
  have h2 : ((as.reverse ++ .ref a :: st).take as.length).reverse = as := by rw [List.take_append_of_le_length (by simp), List.take_of_length_le (by simp), List.reverse_reverse]
  simp only [ab_s, hF, ab_call, if_true, h1, h2]
  simp only [hs, hm, and_true]
  simp [ab_next]
  cases K mid (.ref a :: as) hp <;> rfl
theorem ax_iret (hd : decode b pc = .ok (.ireturn, 1)) (h : rt = 1) : ab_X rom K b cn rt pc ls [.int x] hp = some (some (.int x), hp) := by
  rw [ab_X_step hd]
  simp [ab_s, h, ab_next]
theorem ax_zret (hd : decode b pc = .ok (.ireturn, 1)) (h : rt = 2) (hv : x = 0 ∨ x = 1) : ab_X rom K b cn rt pc ls [.int x] hp = some (some (.int x), hp) := by
  rw [ab_X_step hd]
  simp [ab_s, h, hv, ab_next]
theorem ax_vret (hd : decode b pc = .ok (.return_, 1)) (h : rt = 0 ∨ rt = 3) : ab_X rom K b cn rt pc ls [] hp = some (none, hp) := by
  rw [ab_X_step hd]
  simp [ab_s, h, ab_next]
end ABR
section ABR2
variable {rom : List (List Int32)} {K : Nat → List Value → ab_H → Option ab_O} {b : ByteArray} {cn rt pc pc' : Nat} {ls ls' st : List Value} {hp : ab_H} {x y : Int32} {a : Nat} {off : Int} {tgt : Nat}
theorem ax_lt {l : List Value} {k : Nat} {v : Value} (h : l[k]? = some v) : k < l.length := (List.getElem?_eq_some_iff.mp h).1
theorem ab_ft_bool (h : x = 0 ∨ x = 1) : ab_ft 1 (.int x) = true := by rcases h with h | h <;> subst h <;> rfl
theorem ax_icmp_eq (hd : decode b pc = .ok (.if_icmp .eq off, 3)) (e : (pc : Int) + off = (tgt : Int)) (e2 : pc + 3 = pc') : ab_X rom K b cn rt pc ls (.int y :: .int x :: st) hp = if x = y then ab_X rom K b cn rt tgt ls st hp else ab_X rom K b cn rt pc' ls st hp := by
  rw [ax_icmp hd e e2]; simp only [ab_cmp, decide_eq_true_eq]
theorem ax_icmp_ne (hd : decode b pc = .ok (.if_icmp .ne off, 3)) (e : (pc : Int) + off = (tgt : Int)) (e2 : pc + 3 = pc') : ab_X rom K b cn rt pc ls (.int y :: .int x :: st) hp = if x = y then ab_X rom K b cn rt pc' ls st hp else ab_X rom K b cn rt tgt ls st hp := by
  rw [ax_icmp hd e e2]; simp only [ab_cmp, decide_eq_true_eq, ne_eq, ite_not]
theorem ax_icmp_lt (hd : decode b pc = .ok (.if_icmp .lt off, 3)) (e : (pc : Int) + off = (tgt : Int)) (e2 : pc + 3 = pc') : ab_X rom K b cn rt pc ls (.int y :: .int x :: st) hp = if x < y then ab_X rom K b cn rt tgt ls st hp else ab_X rom K b cn rt pc' ls st hp := by
  rw [ax_icmp hd e e2]; simp only [ab_cmp, decide_eq_true_eq]
theorem ax_icmp_ge (hd : decode b pc = .ok (.if_icmp .ge off, 3)) (e : (pc : Int) + off = (tgt : Int)) (e2 : pc + 3 = pc') : ab_X rom K b cn rt pc ls (.int y :: .int x :: st) hp = if x < y then ab_X rom K b cn rt pc' ls st hp else ab_X rom K b cn rt tgt ls st hp := by
  rw [ax_icmp hd e e2]; simp only [ab_cmp, decide_eq_true_eq, ← Int32.not_lt, ite_not]
theorem ax_icmp_gt (hd : decode b pc = .ok (.if_icmp .gt off, 3)) (e : (pc : Int) + off = (tgt : Int)) (e2 : pc + 3 = pc') : ab_X rom K b cn rt pc ls (.int y :: .int x :: st) hp = if y < x then ab_X rom K b cn rt tgt ls st hp else ab_X rom K b cn rt pc' ls st hp := by
  rw [ax_icmp hd e e2]; simp only [ab_cmp, decide_eq_true_eq]
theorem ax_icmp_le (hd : decode b pc = .ok (.if_icmp .le off, 3)) (e : (pc : Int) + off = (tgt : Int)) (e2 : pc + 3 = pc') : ab_X rom K b cn rt pc ls (.int y :: .int x :: st) hp = if y < x then ab_X rom K b cn rt pc' ls st hp else ab_X rom K b cn rt tgt ls st hp := by
  rw [ax_icmp hd e e2]; simp only [ab_cmp, decide_eq_true_eq, ← Int32.not_lt, ite_not]
theorem ax_if_eq (hd : decode b pc = .ok (.ifCond .eq off, 3)) (e : (pc : Int) + off = (tgt : Int)) (e2 : pc + 3 = pc') : ab_X rom K b cn rt pc ls (.int x :: st) hp = if x = 0 then ab_X rom K b cn rt tgt ls st hp else ab_X rom K b cn rt pc' ls st hp := by
  rw [ax_if hd e e2]; simp only [ab_cmp, decide_eq_true_eq]
theorem ax_if_ne (hd : decode b pc = .ok (.ifCond .ne off, 3)) (e : (pc : Int) + off = (tgt : Int)) (e2 : pc + 3 = pc') : ab_X rom K b cn rt pc ls (.int x :: st) hp = if x = 0 then ab_X rom K b cn rt pc' ls st hp else ab_X rom K b cn rt tgt ls st hp := by
  rw [ax_if hd e e2]; simp only [ab_cmp, decide_eq_true_eq, ne_eq, ite_not]
theorem ax_if_lt (hd : decode b pc = .ok (.ifCond .lt off, 3)) (e : (pc : Int) + off = (tgt : Int)) (e2 : pc + 3 = pc') : ab_X rom K b cn rt pc ls (.int x :: st) hp = if x < 0 then ab_X rom K b cn rt tgt ls st hp else ab_X rom K b cn rt pc' ls st hp := by
  rw [ax_if hd e e2]; simp only [ab_cmp, decide_eq_true_eq]
theorem ax_if_ge (hd : decode b pc = .ok (.ifCond .ge off, 3)) (e : (pc : Int) + off = (tgt : Int)) (e2 : pc + 3 = pc') : ab_X rom K b cn rt pc ls (.int x :: st) hp = if x < 0 then ab_X rom K b cn rt pc' ls st hp else ab_X rom K b cn rt tgt ls st hp := by
  rw [ax_if hd e e2]; simp only [ab_cmp, decide_eq_true_eq, ← Int32.not_lt, ite_not]
theorem ax_if_gt (hd : decode b pc = .ok (.ifCond .gt off, 3)) (e : (pc : Int) + off = (tgt : Int)) (e2 : pc + 3 = pc') : ab_X rom K b cn rt pc ls (.int x :: st) hp = if 0 < x then ab_X rom K b cn rt tgt ls st hp else ab_X rom K b cn rt pc' ls st hp := by
  rw [ax_if hd e e2]; simp only [ab_cmp, decide_eq_true_eq]
theorem ax_if_le (hd : decode b pc = .ok (.ifCond .le off, 3)) (e : (pc : Int) + off = (tgt : Int)) (e2 : pc + 3 = pc') : ab_X rom K b cn rt pc ls (.int x :: st) hp = if 0 < x then ab_X rom K b cn rt pc' ls st hp else ab_X rom K b cn rt tgt ls st hp := by
  rw [ax_if hd e e2]; simp only [ab_cmp, decide_eq_true_eq, ← Int32.not_lt, ite_not]
theorem ab_M_eq {d mid n cn rt : Nat} {y : MethodName} {as : List Value} (h : ab_mT[mid]? = some (y, b, n, rt, cn)) (hl : (ab_sl as).length ≤ n) : ab_M rom (d + 1) mid as hp = ab_X rom (ab_M rom d) b cn rt 0 (ab_ent as n) [] hp := by
  rw [ab_M]
  simp only [h, if_pos hl]
end ABR2
