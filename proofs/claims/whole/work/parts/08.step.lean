/-! A STEP OF THE SMALL MACHINE IS A STEP OF THE STATEMENT'S -/
/-- what texts are: a predicate with its rules (given in a part of its own) -/
abbrev ab_SX : Type := Nat → (Nat → Nat) → State → Prop
def ab_SxOK (Sx : ab_SX) : Prop :=
  (∀ (B : Nat) (rv : Nat → Nat) (U : State) (g : JFrame) (mk : MethodId) (a : Array Value), Sx B rv U → Sx B rv (U.calling g mk a)) ∧
  (∀ (B : Nat) (rv : Nat → Nat) (s U : State), s.WarmedH U.vm → (∀ q : Nat, q < s.heap.size → ¬ ab_A B q → U.heap[q]? = s.heap[q]?) → Sx B rv s → Sx B rv U) ∧
  (∀ {p : Program} {l : Launch} {e : Env} {R : Room} {s : State} {m : MethodId} {args : Array Value} {below : List Frame} {meth : Method} {c : Code} {H : Heap} {locs : List Loc} {cells slots : Nat} {Q : State → Prop} {cc : ByteArray} {pc : Nat} {ls : Array Slot} {rest : List Value} {cn k j B : Nat} {rv : Nat → Nat},
    p.tables.exec = Jvm.exec → c.code = cc → Sx B rv s → s.vm.findClass (ab_cl cn) = some m.cls → (∀ w ∈ ab_W, w.before args s = true) → ab_lk ab_rT cn k = some j → decode cc pc = .ok (.ldc k, 2) →
    W p l e R s m args below meth c H locs cells slots Q (F0 m (pc + 2) ls (.ref (rv j) :: rest)) → W p l e R s m args below meth c H locs cells slots Q (F0 m pc ls rest)) ∧
  (∀ {p : Program} {l : Launch} {e : Env} {R : Room} {s : State} {m : MethodId} {args : Array Value} {below : List Frame} {meth : Method} {c : Code} {H : Heap} {locs : List Loc} {cells slots : Nat} {Q : State → Prop} {cc : ByteArray} {pc : Nat} {ls : Array Slot} {rest : List Value} {cn k mid n ci a B : Nat} {as : List Value} {rv : Nat → Nat} {v : Option Value} {hp hp' : ab_H},
    p.tables.exec = Jvm.exec → c.code = cc → c.maxLocals = ls.size → Sx B rv s → s.vm.findClass (ab_cl cn) = some m.cls → (∀ w ∈ ab_W, w.before args s = true) → ab_lk ab_cT cn k = some (9, mid, n, ci) → decode cc pc = .ok (.invokevirtual k, 3) →
    7 ≤ R.frames → 287 ≤ R.locals → cells ≤ R.cells → slots ≤ R.slots → va_S (ab_A B) s.heap H locs → (rest.map fun v => v.category).sum ≤ 8 → as.length = n → ab_prim mid (.ref a :: as) hp = some (v, hp') →
    (∀ locs1, va_S (ab_A B) s.heap H locs1 → W p l e R s m args below meth c H locs1 cells slots Q (F0 m (pc + 3) ls ((v.map (ab_v B rv)).toList ++ rest))) → W p l e R s m args below meth c H locs cells slots Q (F0 m pc ls ((as.map (ab_v B rv)).reverse ++ .ref (ab_ad B rv a) :: rest)))
def ab_ro (Sx : ab_SX) (B : Nat) (rv : Nat → Nat) (rom : List (List Int32)) (U : State) : Prop :=
  (∀ (j : Nat) (xs : List Int32), rom[j]? = some xs → va_T .int (rv j) xs.length (fun i => .int (xs.getD i 0)) (ab_A B) U U.heap) ∧
  (∀ j : Nat, 1 ≤ j → j ≤ 5 → va_Z "FairLabels$Maker" (ab_sn.getD j "") "[I" (.ref (rv j)) (ab_A B) U U.heap) ∧
  (∀ w ∈ ab_nest, va_Nw w U) ∧ va_AO RX3 U ∧ Sx B rv U
theorem ab_ro.calling {Sx : ab_SX} {B : Nat} {rv : Nat → Nat} {rom : List (List Int32)} {U : State} (hX : ab_SxOK Sx) (h : ab_ro Sx B rv rom U) (g : JFrame) (mk : MethodId) (a : Array Value) : ab_ro Sx B rv rom (U.calling g mk a) := by
  obtain ⟨h1, h2, h3, h4, h5⟩ := h
  exact ⟨fun j xs hj => va_T.moved (u := U) (U := U.calling g mk a) (Vm.Alike.refl U.vm) (h1 j xs hj), fun j a1 a2 => va_Z.moved (u := U) (U := U.calling g mk a) (Vm.Alike.refl U.vm) (h2 j a1 a2), fun w hw => by
    have := h3 w hw
    simp only [ab_nest, List.mem_cons, List.not_mem_nil, or_false] at hw
    rcases hw with rfl | rfl | rfl | rfl <;> exact va_Nw.same (u := U) (U := U.calling g mk a) rfl rfl this, va_AO.moved (u := U) (U := U.calling g mk a) (Vm.Alike.refl U.vm) h4, hX.1 _ _ _ _ _ _ h5⟩
theorem ab_ro.warm {Sx : ab_SX} {B : Nat} {rv : Nat → Nat} {rom : List (List Int32)} {s U : State} (hX : ab_SxOK Sx) (hB : B ≤ s.heap.size) (hW : s.WarmedH U.vm) (hk : ∀ q : Nat, q < s.heap.size → ¬ ab_A B q → U.heap[q]? = s.heap[q]?) (h : ab_ro Sx B rv rom s) : ab_ro Sx B rv rom U := by
  obtain ⟨h1, h2, h3, h4, h5⟩ := h
  refine ⟨fun j xs hj => (va_T.moved hW.alike (h1 j xs hj)).kept hk, fun j a1 a2 => (va_Z.moved hW.alike (h2 j a1 a2)).kept hk, fun w hw => ?_, va_AO.moved hW.alike h4, hX.2.1 _ _ _ _ hW hk h5⟩
  have := h3 w hw
  simp only [ab_nest, List.mem_cons, List.not_mem_nil, or_false] at hw
  rcases hw with rfl | rfl | rfl | rfl <;> exact va_Nw.warmM hW this
/-- the world of a state: the cells, the tables, what is read only -/
def ab_Ws (Sx : ab_SX) (D : va_G) (cy : Nat → ClassId) (B : Nat) (rv : Nat → Nat) (rom : List (List Int32)) (hp : ab_H) (U : State) : Prop := U.heap.size = B + hp.length ∧ hp.length ≤ ab_RO ∧ va_P D ab_vw (ab_w B rv cy hp) U.heap ∧ va_K D ab_vw (ab_ty cy) U ∧ ab_ro Sx B rv rom U
def ab_Cx (Sx : ab_SX) (p : Program) (R : Room) (s : State) (m : MethodId) (args : Array Value) (meth : Method) (c : Code) (cc : ByteArray) (cn rt nL c0 : Nat) (D : va_G) (cy : Nat → ClassId) (B : Nat) (rv : Nat → Nat) (rom : List (List Int32)) : Prop :=
  p.tables.exec = Jvm.exec ∧ c.code = cc ∧ c.maxLocals = nL ∧ s.vm.findClass (ab_cl cn) = some m.cls ∧ (∀ w ∈ ab_W, w.before args s = true) ∧ (rt = 3 → meth.name = "<init>") ∧ va_K D ab_vw (ab_ty cy) s ∧ ab_ro Sx B rv rom s ∧ s.heap.size = B + c0 ∧ 1 ≤ R.frames ∧ 41 ≤ R.locals
section ABS
variable {Sx : ab_SX} {p : Program} {l : Launch} {e : Env} {R : Room} {s : State} {m : MethodId} {args : Array Value} {below : List Frame} {meth : Method} {c : Code} {H : Heap} {locs : List Loc} {cells slots : Nat} {Q : State → Prop}
variable {cc : ByteArray} {cn rt nL c0 z0 : Nat} {D : va_G} {cy : Nat → ClassId} {B : Nat} {rv : Nat → Nat} {rom : List (List Int32)} {hp : ab_H}
theorem ab_Wsz {g : JFrame} (kk : H.size ≤ s.heap.size + cells → W p l e R s m args below meth c H locs cells slots Q g) : W p l e R s m args below meth c H locs cells slots Q g := fun T hT X => kk (by rw [← hT]; exact X.same.2.2.1) T hT X
theorem ab_size (hP : va_P D ab_vw (ab_w B rv cy hp) H) (hS : va_S (ab_A B) s.heap H locs) (hs : s.heap.size = B + c0) (hc : cells + c0 = hp.length) (hz : H.size ≤ s.heap.size + cells) : H.size = B + hp.length := by
  have h1 := hS.1
  by_cases h0 : hp.length = 0
  · omega
  · have hk : hp.length - 1 < hp.length := by omega
    have := (hP (hp.length - 1) _ (ab_w_at (List.getElem?_eq_getElem hk))).lt
    simp only at this
    omega
def ab_Go (p : Program) (l : Launch) (e : Env) (R : Room) (s : State) (m : MethodId) (args : Array Value) (below : List Frame) (meth : Method) (c : Code) (Q : State → Prop) (D : va_G) (cy : Nat → ClassId) (B : Nat) (rv : Nat → Nat) (nL c0 z0 pc : Nat) (ls st : List Value) (hp : ab_H) : Prop :=
  ∀ (H : Heap) (locs : List Loc) (cells slots : Nat) (als : Array Slot), va_P D ab_vw (ab_w B rv cy hp) H → hp.length ≤ ab_RO → va_S (ab_A B) s.heap H locs → ab_rel B rv nL ls als → cells + c0 = hp.length → slots + z0 = ab_szs hp → W p l e R s m args below meth c H locs cells slots Q (F0 m pc als (st.map (ab_v B rv)))
theorem ab_fits {ty : FieldType} {tc : Nat} {v : Value} (h : ab_tco ty tc = true) (hv : ab_ft tc v = true) : narrow ty (ab_v B rv v) = ab_v B rv v ∧ fits ty (ab_v B rv v) = true := by
  cases ty with
  | int =>
    have e : tc = 0 := by simpa [ab_tco] using h
    subst e
    cases v with
    | int x => exact ⟨rfl, rfl⟩
    | _ => simp [ab_ft] at hv
  | boolean =>
    have e : tc = 1 := by simpa [ab_tco] using h
    subst e
    cases v with
    | int x =>
      have hx : x = 0 ∨ x = 1 := by simpa [ab_ft] using hv
      rcases hx with e | e <;> subst e <;> exact ⟨by simp [ab_v, narrow], by simp [ab_v, fits]⟩
    | _ => simp [ab_ft] at hv
  | object C =>
    have e : tc = 2 := by simpa [ab_tco] using h
    subst e
    cases v with
    | ref x => exact ⟨rfl, rfl⟩
    | _ => simp [ab_ft] at hv
  | array C =>
    have e : tc = 2 := by simpa [ab_tco] using h
    subst e
    cases v with
    | ref x => exact ⟨rfl, rfl⟩
    | _ => simp [ab_ft] at hv
  | _ => simp [ab_tco] at h
end ABS
/-- which of the three rows below a step takes -/
def ab_kd (i : Instr) : Nat := match i with
  | .getfield _ => 2
  | .putfield _ => 2
  | .getstatic _ => 2
  | .iaload => 2
  | .baload => 2
  | .iastore => 2
  | .bastore => 2
  | .aaload => 2
  | .aastore => 2
  | .arraylength => 2
  | .newarray _ => 2
  | .anewarray _ => 2
  | .new _ => 2
  | .invokevirtual _ => 3
  | .invokestatic _ => 3
  | .invokespecial _ => 3
  | _ => 1
