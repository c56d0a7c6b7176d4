/-! THE SMALL MACHINE: bytecode over a list of cells, refs are places in that list (from ab_RO on: cells that nobody writes). It has no frames of other methods: a call is answered by a function K. What it answers, the machine of the Statement does (part 06). -/
abbrev ab_C : Type := (Nat × List Int32) ⊕ (List (Option Nat) ⊕ (Nat × List Value))
abbrev ab_H : Type := List ab_C
def ab_RO : Nat := 1000000000
/-- go on at; return; call (method, args, the pc behind, locals, stack, heap) -/
abbrev ab_R : Type := (Nat × List Value × List Value × ab_H) ⊕ ((Option Value × ab_H) ⊕ (Nat × List Value × Nat × List Value × List Value × ab_H))
abbrev ab_O : Type := Option Value × ab_H
def ab_go (pc : Nat) (ls st : List Value) (hp : ab_H) : Option ab_R := some (.inl (pc, ls, st, hp))
def ab_lk {α : Type} (T : List (Nat × Nat × α)) (cn idx : Nat) : Option α := match T with
  | [] => none
  | q :: T => if q.1 = cn ∧ q.2.1 = idx then some q.2.2 else ab_lk T cn idx
theorem ab_lk_mem {α : Type} {T : List (Nat × Nat × α)} {cn idx : Nat} {v : α} (h : ab_lk T cn idx = some v) : (cn, idx, v) ∈ T := by
  induction T with
  | nil => cases h
  | cons q T ih =>
    unfold ab_lk at h
    split at h
    · rename_i hc
      obtain ⟨a, b, w⟩ := q
      obtain ⟨h1, h2⟩ := hc
      cases h
      simp only at h1 h2
      subst h1; subst h2
      exact List.mem_cons_self
    · exact List.mem_cons_of_mem _ (ih h)
def ab_jmp (pc : Nat) (off : Int) (ls st : List Value) (hp : ab_H) : Option ab_R := if 0 ≤ (pc : Int) + off then ab_go ((pc : Int) + off).toNat ls st hp else none
def ab_cmp (q : Jvm.ClassFile.Cond) (x y : Int32) : Bool := match q with
  | .eq => decide (x = y)
  | .ne => decide (x ≠ y)
  | .lt => decide (x < y)
  | .ge => decide (y ≤ x)
  | .gt => decide (y < x)
  | .le => decide (x ≤ y)
def ab_br (b : Bool) (pc : Nat) (off : Int) (ls st : List Value) (hp : ab_H) : Option ab_R := if 0 ≤ (pc : Int) + off then (if b = true then ab_go ((pc : Int) + off).toNat ls st hp else ab_go (pc + 3) ls st hp) else none
def ab_ild (ls : List Value) (k pc : Nat) (st : List Value) (hp : ab_H) : Option ab_R := match ls[k]? with
  | some (.int x) => ab_go pc ls (.int x :: st) hp
  | _ => none
def ab_ald (ls : List Value) (k pc : Nat) (st : List Value) (hp : ab_H) : Option ab_R := match ls[k]? with
  | some (.ref a) => ab_go pc ls (.ref a :: st) hp
  | _ => none
def ab_lld (ls : List Value) (k pc : Nat) (st : List Value) (hp : ab_H) : Option ab_R := match ls[k]? with
  | some (.long a) => ab_go pc ls (.long a :: st) hp
  | _ => none
/-- no value of two slots just ahead -/
def ab_nl (ls : List Value) (k : Nat) : Bool := match k with
  | 0 => true
  | j + 1 => match ls[j]? with
    | some (.long _) => false
    | some (.double _) => false
    | _ => true
def ab_ist (ls : List Value) (k pc : Nat) (st : List Value) (hp : ab_H) : Option ab_R := match st with
  | .int x :: st => if k < ls.length ∧ ab_nl ls k = true then ab_go pc (ls.set k (.int x)) st hp else none
  | _ => none
def ab_ast (ls : List Value) (k pc : Nat) (st : List Value) (hp : ab_H) : Option ab_R := match st with
  | .ref x :: st => if k < ls.length ∧ ab_nl ls k = true then ab_go pc (ls.set k (.ref x)) st hp else none
  | _ => none
def ab_inc (ls : List Value) (k pc : Nat) (n : Int) (st : List Value) (hp : ab_H) : Option ab_R := match ls[k]? with
  | some (.int x) => if k < ls.length ∧ ab_nl ls k = true then ab_go pc (ls.set k (.int (x + Int32.ofInt n))) st hp else none
  | _ => none
def ab_bin (f : Int32 → Int32 → Option Int32) (pc : Nat) (ls st : List Value) (hp : ab_H) : Option ab_R := match st with
  | .int y :: .int x :: st => match f x y with
    | some v => ab_go (pc + 1) ls (.int v :: st) hp
    | none => none
  | _ => none
def ab_gf (F : Option (Nat × Nat × Nat × Nat)) (pc : Nat) (ls st : List Value) (hp : ab_H) : Option ab_R := match F with
  | some (ci, k, _, _) => match st with
    | .ref a :: st => match hp[a]? with
      | some (.inr (.inr (c, fs))) => if c = ci then (match fs[k]? with
        | some v => ab_go (pc + 3) ls (v :: st) hp
        | none => none) else none
      | _ => none
    | _ => none
  | none => none
/-- does a value fit: 0 int, 1 boolean, 2 ref -/
def ab_ft (tc : Nat) (v : Value) : Bool := match v with
  | .int x => tc == 0 || (tc == 1 && (x == 0 || x == 1))
  | .ref _ => tc == 2
  | _ => false
/-- fin: 0 not final, 1 final (only in a constructor: rt = 3) -/
def ab_pf (cn rt : Nat) (F : Option (Nat × Nat × Nat × Nat)) (pc : Nat) (ls st : List Value) (hp : ab_H) : Option ab_R := match F with
  | some (ci, k, fin, tc) => match st with
    | v :: .ref a :: st => match hp[a]? with
      | some (.inr (.inr (c, fs))) => if c = ci ∧ k < fs.length ∧ (fin = 0 ∨ (rt = 3 ∧ cn = ci)) ∧ ab_ft tc v = true then ab_go (pc + 3) ls st (hp.set a (.inr (.inr (c, fs.set k v)))) else none
      | _ => none
    | _ => none
  | none => none
def ab_arr (rom : List (List Int32)) (t : Nat) (hp : ab_H) (a : Nat) : Option (List Int32) := match hp[a]? with
  | some (.inl (t', xs)) => if t' = t then some xs else none
  | some _ => none
  | none => if t = 0 ∧ ab_RO ≤ a then rom[a - ab_RO]? else none
def ab_xld (rom : List (List Int32)) (t pc : Nat) (ls st : List Value) (hp : ab_H) : Option ab_R := match st with
  | .int i :: .ref a :: st => match ab_arr rom t hp a with
    | some xs => if ¬ i < 0 then (match xs[i.toNatClampNeg]? with
      | some v => ab_go (pc + 1) ls (.int v :: st) hp
      | none => none) else none
    | none => none
  | _ => none
def ab_xst (t pc : Nat) (ls st : List Value) (hp : ab_H) : Option ab_R := match st with
  | .int v :: .int i :: .ref a :: st => match hp[a]? with
    | some (.inl (t', xs)) => if t' = t ∧ ¬ i < 0 ∧ i.toNatClampNeg < xs.length ∧ ab_ft t (.int v) = true then ab_go (pc + 1) ls st (hp.set a (.inl (t', xs.set i.toNatClampNeg v))) else none
    | _ => none
  | _ => none
def ab_rld (pc : Nat) (ls st : List Value) (hp : ab_H) : Option ab_R := match st with
  | .int i :: .ref a :: st => match hp[a]? with
    | some (.inr (.inl rs)) => if ¬ i < 0 then (match rs[i.toNatClampNeg]? with
      | some (some v) => ab_go (pc + 1) ls (.ref v :: st) hp
      | _ => none) else none
    | _ => none
  | _ => none
/-- only Nets lie in rows of references -/
def ab_rst (pc : Nat) (ls st : List Value) (hp : ab_H) : Option ab_R := match st with
  | .ref v :: .int i :: .ref a :: st => match hp[a]?, hp[v]? with
    | some (.inr (.inl rs)), some (.inr (.inr (1, _))) => if ¬ i < 0 ∧ i.toNatClampNeg < rs.length then ab_go (pc + 1) ls st (hp.set a (.inr (.inl (rs.set i.toNatClampNeg (some v))))) else none
    | _, _ => none
  | _ => none
def ab_len (rom : List (List Int32)) (pc : Nat) (ls st : List Value) (hp : ab_H) : Option ab_R := match st with
  | .ref a :: st => match hp[a]? with
    | some (.inl (0, xs)) => ab_go (pc + 1) ls (.int (Int32.ofNat xs.length) :: st) hp
    | some _ => none
    | none => if ab_RO ≤ a then (match rom[a - ab_RO]? with
      | some xs => ab_go (pc + 1) ls (.int (Int32.ofNat xs.length) :: st) hp
      | none => none) else none
  | _ => none
/-- a new row of ints (t = 0) or booleans (1) -/
def ab_na (t pc : Nat) (ls st : List Value) (hp : ab_H) : Option ab_R := match st with
  | .int n :: st => if ¬ n < 0 ∧ n.toNatClampNeg ≤ 1000 ∧ hp.length < ab_RO then ab_go (pc + 2) ls (.ref hp.length :: st) (hp ++ [.inl (t, List.replicate n.toNatClampNeg 0)]) else none
  | _ => none
def ab_nr (ok : Bool) (pc : Nat) (ls st : List Value) (hp : ab_H) : Option ab_R := match st with
  | .int n :: st => if ok = true ∧ ¬ n < 0 ∧ n.toNatClampNeg ≤ 1000 ∧ hp.length < ab_RO then ab_go (pc + 3) ls (.ref hp.length :: st) (hp ++ [.inr (.inl (List.replicate n.toNatClampNeg none))]) else none
  | _ => none
/-- a new object of class ci, by the types of its fields (0 int, 1 boolean, 2 ref) -/
def ab_dv (tc : Nat) : Value := if tc = 2 then .null else .int 0
def ab_nw (F : Option (Nat × List Nat)) (pc : Nat) (ls st : List Value) (hp : ab_H) : Option ab_R := match F with
  | some (ci, tcs) => if hp.length < ab_RO then ab_go (pc + 3) ls (.ref hp.length :: st) (hp ++ [.inr (.inr (ci, tcs.map ab_dv))]) else none
  | none => none
def ab_max (x y : Int32) : Int32 := if x < y then y else x
def ab_min (x y : Int32) : Int32 := if y < x then y else x
def ab_abs (x : Int32) : Int32 := if 0 ≤ x then x else 0 - x
def ab_cpy (xs ys : List Int32) (sp dp n : Nat) : List Int32 := ys.take dp ++ ((xs.drop sp).take n ++ ys.drop (dp + n))
def ab_acp (pc : Nat) (ls st : List Value) (hp : ab_H) : Option ab_R := match st with
  | .int n :: .int dp :: .ref b :: .int sp :: .ref a :: st => match hp[a]?, hp[b]? with
    | some (.inl (0, xs)), some (.inl (0, ys)) => if ¬ sp < 0 ∧ ¬ dp < 0 ∧ ¬ n < 0 ∧ sp.toNatClampNeg + n.toNatClampNeg ≤ xs.length ∧ dp.toNatClampNeg + n.toNatClampNeg ≤ ys.length ∧ st.length ≤ 4 then
        ab_go (pc + 3) ls st (hp.set b (.inl (0, ab_cpy xs ys sp.toNatClampNeg dp.toNatClampNeg n.toNatClampNeg))) else none
    | _, _ => none
  | _ => none
/-- kinds of calls: 0 of an object's method, 1 static, 2 a constructor, 3 a nest mate's constructor, 4 Object's, 5 max, 6 min, 7 abs, 8 arraycopy, 9 a text's length or sign (methods 1000, 1001); (kind, method, how many parameters, the receiver's class) -/
def ab_call (ivk : Nat) (F : Option (Nat × Nat × Nat × Nat)) (pc : Nat) (ls st : List Value) (hp : ab_H) : Option ab_R := match F with
  | some (kd, mid, n, ci) =>
    if (kd = 1 ∧ ivk = 1) then (if n ≤ st.length ∧ (st.drop n).length ≤ 4 then some (.inr (.inr (mid, (st.take n).reverse, pc + 3, ls, st.drop n, hp))) else none)
    else if (kd = 0 ∧ ivk = 0) ∨ ((kd = 2 ∨ kd = 3) ∧ ivk = 2) then (match st.drop n with
      | .ref a :: rest => (match hp[a]? with
        | some (.inr (.inr (c, _))) => if c = ci ∧ n ≤ st.length ∧ rest.length ≤ 4 then some (.inr (.inr (mid, .ref a :: (st.take n).reverse, pc + 3, ls, rest, hp))) else none
        | _ => none)
      | _ => none)
    else if kd = 4 ∧ ivk = 2 then (match st with
      | .ref _ :: rest => if rest.length ≤ 4 then ab_go (pc + 3) ls rest hp else none
      | _ => none)
    else if kd = 5 ∧ ivk = 1 then (match st with
      | .int y :: .int x :: rest => if rest.length ≤ 4 then ab_go (pc + 3) ls (.int (ab_max x y) :: rest) hp else none
      | _ => none)
    else if kd = 6 ∧ ivk = 1 then (match st with
      | .int y :: .int x :: rest => if rest.length ≤ 4 then ab_go (pc + 3) ls (.int (ab_min x y) :: rest) hp else none
      | _ => none)
    else if kd = 7 ∧ ivk = 1 then (match st with
      | .int x :: rest => if rest.length ≤ 4 then ab_go (pc + 3) ls (.int (ab_abs x) :: rest) hp else none
      | _ => none)
    else if kd = 8 ∧ ivk = 1 then ab_acp pc ls st hp
    else if kd = 9 ∧ ivk = 0 ∧ 1000 ≤ mid then (match st.drop n with
      | .ref a :: rest => if n ≤ st.length ∧ rest.length ≤ 4 then some (.inr (.inr (mid, .ref a :: (st.take n).reverse, pc + 3, ls, rest, hp))) else none
      | _ => none)
    else none
  | none => none
def ab_rem (x y : Int32) : Int32 := x - x / y * y
def ab_s (rom : List (List Int32)) (cn rt : Nat) (i : Instr) (len pc : Nat) (ls st : List Value) (hp : ab_H) : Option ab_R :=
  match i with
  | .aload k => if len = 2 then ab_ald ls k (pc + 2) st hp else none
  | .aload_n k => if len = 1 then ab_ald ls k.val (pc + 1) st hp else none
  | .iload k => if len = 2 then ab_ild ls k (pc + 2) st hp else none
  | .iload_n k => if len = 1 then ab_ild ls k.val (pc + 1) st hp else none
  | .lload k => if len = 2 then ab_lld ls k (pc + 2) st hp else none
  | .lload_n k => if len = 1 then ab_lld ls k.val (pc + 1) st hp else none
  | .istore k => if len = 2 then ab_ist ls k (pc + 2) st hp else none
  | .istore_n k => if len = 1 then ab_ist ls k.val (pc + 1) st hp else none
  | .astore k => if len = 2 then ab_ast ls k (pc + 2) st hp else none
  | .astore_n k => if len = 1 then ab_ast ls k.val (pc + 1) st hp else none
  | .iinc k n => if len = 3 then ab_inc ls k (pc + 3) n st hp else none
  | .iconst n => if len = 1 then ab_go (pc + 1) ls (.int (Int32.ofInt n) :: st) hp else none
  | .bipush n => if len = 2 then ab_go (pc + 2) ls (.int (Int8.ofInt n).toInt32 :: st) hp else none
  | .sipush n => if len = 3 then ab_go (pc + 3) ls (.int (Int16.ofInt n).toInt32 :: st) hp else none
  | .lconst n => if len = 1 then ab_go (pc + 1) ls (.long (Int64.ofNat n.val) :: st) hp else none
  | .ldc k => if len = 2 then (match ab_lk ab_kT cn k with
    | some v => ab_go (pc + 2) ls (.int v :: st) hp
    | none => match ab_lk ab_rT cn k with
      | some j => ab_go (pc + 2) ls (.ref (ab_RO + j) :: st) hp
      | none => none) else none
  | .ldc_w k => if len = 3 then (match ab_lk ab_kT cn k with
    | some v => ab_go (pc + 3) ls (.int v :: st) hp
    | none => none) else none
  | .ldc2_w k => if len = 3 then (match ab_lk ab_lT cn k with
    | some v => ab_go (pc + 3) ls (.long v :: st) hp
    | none => none) else none
  | .i2l => if len = 1 then (match st with
    | .int x :: st => ab_go (pc + 1) ls (.long x.toInt64 :: st) hp
    | _ => none) else none
  | .lcmp => if len = 1 then (match st with
    | .long y :: .long x :: st => ab_go (pc + 1) ls (.int (lg_cmp x y) :: st) hp
    | _ => none) else none
  | .iadd => if len = 1 then ab_bin (fun x y => some (x + y)) pc ls st hp else none
  | .isub => if len = 1 then ab_bin (fun x y => some (x - y)) pc ls st hp else none
  | .imul => if len = 1 then ab_bin (fun x y => some (x * y)) pc ls st hp else none
  | .idiv => if len = 1 then ab_bin (fun x y => if y = 0 then none else some (x / y)) pc ls st hp else none
  | .irem => if len = 1 then ab_bin (fun x y => if y = 0 then none else some (ab_rem x y)) pc ls st hp else none
  | .iand => if len = 1 then ab_bin (fun x y => some (x &&& y)) pc ls st hp else none
  | .ior => if len = 1 then ab_bin (fun x y => some (x ||| y)) pc ls st hp else none
  | .ixor => if len = 1 then ab_bin (fun x y => some (x ^^^ y)) pc ls st hp else none
  | .ishl => if len = 1 then ab_bin (fun x y => some (x <<< (y &&& 31))) pc ls st hp else none
  | .ishr => if len = 1 then ab_bin (fun x y => some (x >>> (y &&& 31))) pc ls st hp else none
  | .iushr => if len = 1 then ab_bin (fun x y => some (x.toUInt32 >>> (y.toUInt32 &&& Int32.toUInt32 31)).toInt32) pc ls st hp else none
  | .ineg => if len = 1 then (match st with
    | .int x :: st => ab_go (pc + 1) ls (.int (-x) :: st) hp
    | _ => none) else none
  | .dup => if len = 1 then (match st with
    | v :: st => if v.category = 1 then ab_go (pc + 1) ls (v :: v :: st) hp else none
    | _ => none) else none
  | .dup2 => if len = 1 then (match st with
    | v :: w :: st => if v.category = 1 ∧ w.category = 1 then ab_go (pc + 1) ls (v :: w :: v :: w :: st) hp else none
    | _ => none) else none
  | .if_icmp q off => if len = 3 then (match st with
    | .int y :: .int x :: st => ab_br (ab_cmp q x y) pc off ls st hp
    | _ => none) else none
  | .ifCond q off => if len = 3 then (match st with
    | .int x :: st => ab_br (ab_cmp q x 0) pc off ls st hp
    | _ => none) else none
  | .goto off => if len = 3 then ab_jmp pc off ls st hp else none
  | .tableswitch dflt lo hi offs => (match st with
    | .int x :: st => if x.toInt < lo ∨ hi < x.toInt then ab_jmp pc dflt ls st hp else (match offs[(x.toInt - lo).toNat]? with
      | some off => ab_jmp pc off ls st hp
      | none => none)
    | _ => none)
  | .getfield k => if len = 3 then ab_gf (ab_lk ab_fT cn k) pc ls st hp else none
  | .putfield k => if len = 3 then ab_pf cn rt (ab_lk ab_fT cn k) pc ls st hp else none
  | .getstatic k => if len = 3 then (match ab_lk ab_sT cn k with
    | some j => ab_go (pc + 3) ls (.ref (ab_RO + j) :: st) hp
    | none => none) else none
  | .iaload => if len = 1 then ab_xld rom 0 pc ls st hp else none
  | .baload => if len = 1 then ab_xld rom 1 pc ls st hp else none
  | .iastore => if len = 1 then ab_xst 0 pc ls st hp else none
  | .bastore => if len = 1 then ab_xst 1 pc ls st hp else none
  | .aaload => if len = 1 then ab_rld pc ls st hp else none
  | .aastore => if len = 1 then ab_rst pc ls st hp else none
  | .arraylength => if len = 1 then ab_len rom pc ls st hp else none
  | .newarray t => if len = 2 then (match t with
    | .int => ab_na 0 pc ls st hp
    | .boolean => ab_na 1 pc ls st hp
    | _ => none) else none
  | .anewarray k => if len = 3 then ab_nr (ab_lk ab_aT cn k).isSome pc ls st hp else none
  | .new k => if len = 3 then ab_nw (ab_lk ab_nT cn k) pc ls st hp else none
  | .invokevirtual k => if len = 3 then ab_call 0 (ab_lk ab_cT cn k) pc ls st hp else none
  | .invokestatic k => if len = 3 then ab_call 1 (ab_lk ab_cT cn k) pc ls st hp else none
  | .invokespecial k => if len = 3 then ab_call 2 (ab_lk ab_cT cn k) pc ls st hp else none
  | .ireturn => if len = 1 then (match st with
    | [.int v] => if rt = 1 ∨ (rt = 2 ∧ (v = 0 ∨ v = 1)) then some (.inr (.inl (some (.int v), hp))) else none
    | _ => none) else none
  | .return_ => if len = 1 then (match st with
    | [] => if rt = 0 ∨ rt = 3 then some (.inr (.inl (none, hp))) else none
    | _ => none) else none
  | _ => none
/-- what a step leads to, calls answered by K -/
def ab_next (K : Nat → List Value → ab_H → Option ab_O) (go : Nat → List Value → List Value → ab_H → Option ab_O) (r : Option ab_R) : Option ab_O := match r with
  | none => none
  | some (.inl (pc, ls, st, hp)) => go pc ls st hp
  | some (.inr (.inl o)) => some o
  | some (.inr (.inr (mid, as, pc, ls, rest, hp))) => match K mid as hp with
    | some (v, hp') => go pc ls (v.toList ++ rest) hp'
    | none => none
def ab_ex (rom : List (List Int32)) (K : Nat → List Value → ab_H → Option ab_O) (b : ByteArray) (cn rt : Nat) : Nat → Nat → List Value → List Value → ab_H → Option ab_O
  | 0, _, _, _, _ => none
  | n + 1, pc, ls, st, hp => match decode b pc with
    | .ok (i, len) => ab_next K (ab_ex rom K b cn rt n) (ab_s rom cn rt i len pc ls st hp)
    | .error _ => none
theorem ab_next_mono {K : Nat → List Value → ab_H → Option ab_O} {g1 g2 : Nat → List Value → List Value → ab_H → Option ab_O} (h : ∀ pc ls st hp o, g1 pc ls st hp = some o → g2 pc ls st hp = some o) {r : Option ab_R} {o : ab_O} (e : ab_next K g1 r = some o) : ab_next K g2 r = some o := by
  match r with
  | none => exact e
  | some (.inl (pc, ls, st, hp)) => exact h _ _ _ _ _ e
  | some (.inr (.inl o')) => exact e
  | some (.inr (.inr (mid, as, pc, ls, rest, hp))) =>
    simp only [ab_next] at e ⊢
    cases hk : K mid as hp with
    | none => rw [hk] at e; cases e
    | some q => rw [hk] at e; exact h _ _ _ _ _ e
theorem ab_ex_up (rom : List (List Int32)) (K : Nat → List Value → ab_H → Option ab_O) (b : ByteArray) (cn rt : Nat) : ∀ n pc ls st hp o, ab_ex rom K b cn rt n pc ls st hp = some o → ab_ex rom K b cn rt (n + 1) pc ls st hp = some o
  | 0, _, _, _, _, _, h => by cases h
  | n + 1, pc, ls, st, hp, o, h => by
    unfold ab_ex at h ⊢
    cases hd : decode b pc with
    | error _ => rw [hd] at h; cases h
    | ok q =>
      rw [hd] at h
      exact ab_next_mono (ab_ex_up rom K b cn rt n) h
theorem ab_ex_le {rom : List (List Int32)} {K : Nat → List Value → ab_H → Option ab_O} {b : ByteArray} {cn rt n k : Nat} {pc : Nat} {ls st : List Value} {hp : ab_H} {o : ab_O} (hk : n ≤ k) (h : ab_ex rom K b cn rt n pc ls st hp = some o) : ab_ex rom K b cn rt k pc ls st hp = some o := by
  induction hk with
  | refl => exact h
  | step _ ih => exact ab_ex_up _ _ _ _ _ _ _ _ _ _ _ ih
/-- what comes out, whatever the number of steps -/
noncomputable def ab_X (rom : List (List Int32)) (K : Nat → List Value → ab_H → Option ab_O) (b : ByteArray) (cn rt pc : Nat) (ls st : List Value) (hp : ab_H) : Option ab_O :=
  @dite _ (∃ o, ∃ n, ab_ex rom K b cn rt n pc ls st hp = some o) (Classical.propDecidable _) (fun h => some (Classical.choose h)) (fun _ => none)
theorem ab_X_iff {rom : List (List Int32)} {K : Nat → List Value → ab_H → Option ab_O} {b : ByteArray} {cn rt pc : Nat} {ls st : List Value} {hp : ab_H} {o : ab_O} : ab_X rom K b cn rt pc ls st hp = some o ↔ ∃ n, ab_ex rom K b cn rt n pc ls st hp = some o := by
  unfold ab_X
  constructor
  · intro h
    by_cases hc : ∃ o, ∃ n, ab_ex rom K b cn rt n pc ls st hp = some o
    · rw [dif_pos hc] at h
      cases h
      exact Classical.choose_spec hc
    · rw [dif_neg hc] at h
      cases h
  · intro ⟨n, hn⟩
    have hc : ∃ o, ∃ n, ab_ex rom K b cn rt n pc ls st hp = some o := ⟨o, n, hn⟩
    rw [dif_pos hc]
    obtain ⟨k, hk⟩ := Classical.choose_spec hc
    have h1 := ab_ex_le (Nat.le_max_left n k) hn
    have h2 := ab_ex_le (Nat.le_max_right n k) hk
    rw [h1] at h2
    cases h2
    rfl
theorem ab_ext {a b : Option ab_O} (h : ∀ o, a = some o ↔ b = some o) : a = b := by
  cases ha : a with
  | none => cases hb : b with
    | none => rfl
    | some o => rw [ha] at h; exact absurd ((h o).mpr hb) (by simp)
  | some o => exact ((h o).mp ha).symm
/-- one step -/
theorem ab_X_step {rom : List (List Int32)} {K : Nat → List Value → ab_H → Option ab_O} {b : ByteArray} {cn rt pc len : Nat} {i : Instr} {ls st : List Value} {hp : ab_H} (hd : decode b pc = .ok (i, len)) : ab_X rom K b cn rt pc ls st hp = ab_next K (ab_X rom K b cn rt) (ab_s rom cn rt i len pc ls st hp) := by
  apply ab_ext
  intro o
  rw [ab_X_iff]
  constructor
  · intro ⟨n, hn⟩
    cases n with
    | zero => cases hn
    | succ n =>
      unfold ab_ex at hn
      rw [hd] at hn
      exact ab_next_mono (fun _ _ _ _ _ h => ab_X_iff.mpr ⟨n, h⟩) hn
  · intro h
    have key : ∃ n, ab_next K (ab_ex rom K b cn rt n) (ab_s rom cn rt i len pc ls st hp) = some o := by
      generalize ab_s rom cn rt i len pc ls st hp = r at h ⊢
      match r with
      | none => cases h
      | some (.inl (pc, ls, st, hp)) => exact ab_X_iff.mp h
      | some (.inr (.inl o')) => exact ⟨0, h⟩
      | some (.inr (.inr (mid, as, pc, ls, rest, hp))) =>
        simp only [ab_next] at h ⊢
        cases hk : K mid as hp with
        | none => rw [hk] at h; cases h
        | some q => rw [hk] at h; exact ab_X_iff.mp h
    obtain ⟨n, hn⟩ := key
    refine ⟨n + 1, ?_⟩
    unfold ab_ex
    rw [hd]
    exact hn
/-- locals at a method's entry -/
def ab_sl (as : List Value) : List Value := as.flatMap fun v => if v.category = 2 then [v, .null] else [v]
def ab_ent (as : List Value) (n : Nat) : List Value := ab_sl as ++ List.replicate (n - (ab_sl as).length) .null
/-- a text's length (1000), its sign at a place (1001) -/
def ab_prim (mid : Nat) (as : List Value) (hp : ab_H) : Option ab_O := match as with
  | [.ref a] => if mid = 1000 ∧ ab_RO + 6 ≤ a then (ab_tx[a - ab_RO]?).map (fun xs => (some (.int (Int32.ofNat xs.length)), hp)) else none
  | [.ref a, .int i] => if mid = 1001 ∧ ab_RO + 6 ≤ a ∧ ¬ i < 0 then (ab_tx[a - ab_RO]?).bind (fun xs => (xs[i.toNatClampNeg]?).map (fun v => (some (.int v), hp))) else none
  | _ => none
/-- a method's answer, at depth d -/
noncomputable def ab_M (rom : List (List Int32)) : Nat → Nat → List Value → ab_H → Option ab_O
  | 0, _, _, _ => none
  | d + 1, mid, as, hp => match ab_mT[mid]? with
    | some (_, b, n, rt, cn) => if (ab_sl as).length ≤ n then ab_X rom (ab_M rom d) b cn rt 0 (ab_ent as n) [] hp else none
    | none => if 1000 ≤ mid ∧ 6 ≤ d then ab_prim mid as hp else none
