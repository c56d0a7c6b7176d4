/-! THE CLAIM OUT OF ONE WALK OF THE LAW'S BODY. Your part is whole_start (and what it stands on); all else here is the same for every law, but numbers. -/
def R_law : String := "FairLabelsLaw"
def lw_P (b : Addr) (xs : List Int32) (args : Array Value) (s : State) : Prop := args = #[.ref b] ∧ s.IntsAt b xs ∧ xs.length ≤ 3072 ∧ (Jvm.Cond.and given_1 narrow_1).before args s = true
def lw_Q (_ : Array Value) (s : State) (o : Outcome) (t : State) : Prop := o = .returned (some (.int 1)) ∧ Framed s o t [] 600000 7302250
def lw_Z (below : List Frame) (a : Array Value) (s : State) : State → Prop := fun t => ∃ o, t.status = .running ∧ Ended t below o ∧ lw_Q a s o t
/-- the law's own end, with 1 on the stack, nothing written that was there before, its room as the claim has it -/
theorem lw_ret {p : Program} {l : Launch} {e : Env} {s : State} {m : MethodId} {below : List Frame} {meth : Method} {c : Code} {b : Nat} (hx : p.tables.exec = Jvm.exec) (hb : c.code = code) (hr : meth.sig.returnType = ret) (hlocks : meth.locks = false) {pc : Nat} {H : Heap} {ls : Array Slot} (hdg : decode code pc = .ok (.ireturn, 1)) : W p l e room_1 s m #[Value.ref b] below meth c H [] 600000 7302250 (lw_Z below #[Value.ref b] s) (F0 m pc ls [.int 1]) := by
  intro T hT X
  obtain ⟨fs, hret, hrun, hended, hW, hframe⟩ := X.leave (v := some (.int 1)) (hlocks := hlocks) (fun h => by rw [hr] at h; cases h)
  have hmeth' : T.vm.method? m = some meth := X.method'
  refine ⟨T.setFrames fs, ?_, .returned (some (.int 1)), hrun, hended, rfl, ⟨_, rfl⟩, hW, hframe⟩
  jvm_step X.here [X.here.top, hx, hb, hdg, hmeth', hr, ret, narrow_b1]
  (try refine ⟨rfl, ?_⟩); (try refine ⟨rfl, ?_⟩)
  first | (intro acts; rw [hret _ acts rfl rfl rfl]) | rw [hret _ _ rfl rfl rfl]
  exact Steps.refl _
/-- what holds at the law's entry: the machine, the code, the tables' words (any of lw_tbl by 'hts w (by decide +kernel)'), the script of L ints xs at the cell b, what the Statement gives of the start (any of its parts by flat_of_before) -/
def lw_At (p : Program) (s : State) (m : MethodId) (meth : Method) (c : Code) (b L : Nat) (xs : Nat → Int32) : Prop :=
  p.tables.exec = Jvm.exec ∧ c.code = code ∧ meth.sig.returnType = ret ∧ c.maxLocals = 4 ∧ s.vm.findClass R_law = some m.cls ∧ (∀ w ∈ lw_tbl, w.before #[Value.ref b] s = true) ∧ va_X b L xs s s.heap ∧ b < s.heap.size ∧ meth.locks = false ∧ (Jvm.Cond.and given_1 narrow_1).before #[Value.ref b] s = true
/-! THE START: the law's body in the small machine gives the claim -/
theorem sp_arr {args : Array Value} {s : State} {A : Nat → Prop} (n : String) (xs : List Int32) (hN : xs.length < 2 ^ 31) (harr : (Jvm.Cond.arrayOf (.static "FairLabels$Maker" n "[I") .int).before args s = true) (hlen : (Jvm.Cond.eq (.length (.static "FairLabels$Maker" n "[I")) (.int (Int32.ofNat xs.length))).before args s = true) (hel : ∀ j : Nat, j < xs.length → (Jvm.Cond.eq (.elem (.static "FairLabels$Maker" n "[I") (.int (Int32.ofNat j))) (.int (xs.getD j 0))).before args s = true) (hl : (Jvm.Cond.laysStatic "FairLabels$Maker" n "[I").before args s = true) (hini : (Jvm.Cond.initialized "FairLabels$Maker").before args s = true) (hA : ∀ a : Nat, a < s.heap.size → ¬ A a) : ∃ t, va_T .int t xs.length (fun i => .int (xs.getD i 0)) A s s.heap ∧ va_Z "FairLabels$Maker" n "[I" (.ref t) A s s.heap := by
  obtain ⟨t, h1, h2⟩ := va_Tof (f := fun i => .int (xs.getD i 0)) hN harr (va_eqt hlen) (fun j hj => va_eqt (hel j hj)) hA
  exact ⟨t, h2, va_Zref hl hini h1 hA⟩
theorem sp_str {args : Array Value} {s : State} {A : Nat → Prop} (own : String) (k : Nat) (tx : String) (xs : List Int32) (hN : xs.length < 2 ^ 31) (hsr : (Jvm.Cond.stringRef own k tx).before args s = true) (hex : (Jvm.Cond.exactly (.string own k) "java/lang/String").before args s = true) (hco : (Jvm.Cond.eq (.field (.string own k) "java/lang/String" "coder" "B") (.int 0)).before args s = true) (har : (Jvm.Cond.arrayOf (.field (.string own k) "java/lang/String" "value" "[B") .byte).before args s = true) (hle : (Jvm.Cond.eq (.length (.field (.string own k) "java/lang/String" "value" "[B")) (.int (Int32.ofNat xs.length))).before args s = true) (hel : ∀ j : Nat, j < xs.length → (Jvm.Cond.eq (.elem (.field (.string own k) "java/lang/String" "value" "[B") (.int (Int32.ofNat j))) (.int (xs.getD j 0))).before args s = true) (hA : ∀ a : Nat, a < s.heap.size → ¬ A a) : ∃ a, vk_R own k tx a s ∧ va_O RJ0 a A s s.heap ∧ va_OF RJ0 "coder" "B" (.int 0) a A s s.heap ∧ ∃ q, va_OF RJ0 "value" "[B" (.ref q) a A s s.heap ∧ va_T .byte q xs.length (fun i => .int (xs.getD i 0)) A s s.heap := by
  obtain ⟨adK, adV, h1, h2⟩ := vk_Sof (N := 1) (tm := fun _ => .string own k) (len := [xs.length]) (byt := [xs]) (A := A) (fun i hi => by rw [show i = 0 by omega]; exact hN) (fun _ _ => hex) (fun _ _ => hco) (fun _ _ => har) (fun i hi => by rw [show i = 0 by omega]; exact hle) (fun i hi j hj => by rw [show i = 0 by omega] at hj ⊢; exact hel j hj) (fun i j hi hj hij => absurd (show i = j by omega) hij) hA
  obtain ⟨g1, g2, g3, g4⟩ := h1.1 0 (by omega)
  exact ⟨adK 0, vk_R.of hsr (h2 0 (by omega)), g1, g2, adV 0, g3, g4⟩
/-- what nobody writes: the script, the five rows of labels -/
def ab_rom (xs : List Int32) : List (List Int32) := [xs, [0, 1, 3], [0, 4, 1, 2], [0, 7, 1, 6, 2, 4, 3], [0, 1, 4, 6], []]
/-- THE GOAL, in the small machine alone -/
def ab_GOAL : Prop := ∀ xs : List Int32, xs.length ≤ 3072 → ∃ hp', ab_X (ab_rom xs) (ab_M (ab_rom xs) 1500) code 12 2 0 [.ref ab_RO, .null, .null, .null] [] [] = some (some (.int 1), hp') ∧ hp'.length ≤ 600000 ∧ ab_szs hp' ≤ 7302250
theorem sp_inst {ci : Nat} {C : String} {T : u_T} {N : Nat} (h : ab_vw[ci]? = some (C, T, N)) : Jvm.Cond.instantiable C N ∈ lw_tbl := by
  match ci, h with
  | 0, h => cases h; decide +kernel
  | 1, h => cases h; decide +kernel
  | 2, h => cases h; decide +kernel
  | 3, h => cases h; decide +kernel
  | 4, h => cases h; decide +kernel
  | 5, h => cases h; decide +kernel
  | 6, h => cases h; decide +kernel
  | 7, h => cases h; decide +kernel
  | ci + 8, h => simp [ab_vw] at h
set_option maxHeartbeats 4000000 in
set_option maxRecDepth 100000 in
theorem ab_start (hgoal : ab_GOAL) {p : Program} {e : Env} {s : State} {m : MethodId} {below : List Frame} {meth : Method} {c : Code} (l : Launch) {b L : Nat} {xs : Nat → Int32} (hL : L ≤ 3072) (C0 : lw_At p s m meth c b L xs) : W p l e room_1 s m #[Value.ref b] below meth c s.heap [] 0 0 (lw_Z below #[Value.ref b] s) (entryFrame m ([Value.ref b] : List Value).toArray 4) := by
  obtain ⟨hx, hb, hr, hml, hown, hts, hX, hbl, hlocks, hgv⟩ := C0
  have hs := flat_of_before _ hgv
  have hA : ∀ a : Nat, a < s.heap.size → ¬ ab_A s.heap.size a := fun a h => Nat.not_le.mpr h
  have htsW : ∀ w ∈ ab_W, w.before #[Value.ref b] s = true := fun w hw => hts w (ab_W_tbl hw)
  -- the classes
  have hcl : ∀ k : Nat, ∃ q : ClassId × (Nat → Nat), ∀ z : vw_C, ab_vw[k]? = some z → u_Kn s z.1 z.2.1 z.2.2 q.1 q.2 := by
    intro k
    cases hk : ab_vw[k]? with
    | none => exact ⟨(0, fun _ => 0), fun z hz => by cases hz⟩
    | some z =>
      obtain ⟨C, T, N⟩ := z
      obtain ⟨-, -, -, hw⟩ := ab_vw_ok hk
      obtain ⟨cC, iS, h9⟩ := u_known (n := N) htsW hw (hts _ (sp_inst hk))
      exact ⟨(cC, iS), fun z hz => by cases hz; exact h9⟩
  -- the rows' classes
  obtain ⟨cI, kI, coI, i1, i2, i3⟩ := Cond.arrayClass_spec (type := .int) (htsW _ (ab_ats_mem ab_aw _ List.mem_cons_self))
  obtain ⟨cZ, kZ, coZ, z1, z2, z3⟩ := Cond.arrayClass_spec (type := .boolean) (htsW _ (ab_ats_mem ab_aw _ (List.mem_cons_of_mem _ List.mem_cons_self)))
  have hao : (Jvm.Cond.arrayOver (.object RX3)).before #[Value.ref b] s = true := hts _ (by decide +kernel)
  obtain ⟨coN, cN, kN, n1, n2, n3, n4, n5⟩ := Cond.arrayOver_spec hao
  -- what nobody writes
  obtain ⟨t1, a1, b1⟩ := sp_arr (A := ab_A s.heap.size) "RING_OF_3" [0, 1, 3] (by decide) (hs _ (by decide +kernel)) (hs _ (by decide +kernel)) (fun j hj => by
    have h9 : j = 0 ∨ j = 1 ∨ j = 2 := by simp only [List.length_cons, List.length_nil] at hj; omega
    rcases h9 with h9 | h9 | h9 <;> subst h9 <;> exact hs _ (by decide +kernel)) (hts _ (by decide +kernel)) (hts _ (by decide +kernel)) hA
  obtain ⟨t2, a2, b2⟩ := sp_arr (A := ab_A s.heap.size) "RING_OF_4" [0, 4, 1, 2] (by decide) (hs _ (by decide +kernel)) (hs _ (by decide +kernel)) (fun j hj => by
    have h9 : j = 0 ∨ j = 1 ∨ j = 2 ∨ j = 3 := by simp only [List.length_cons, List.length_nil] at hj; omega
    rcases h9 with h9 | h9 | h9 | h9 <;> subst h9 <;> exact hs _ (by decide +kernel)) (hts _ (by decide +kernel)) (hts _ (by decide +kernel)) hA
  obtain ⟨t3, a3, b3⟩ := sp_arr (A := ab_A s.heap.size) "RING_OF_7" [0, 7, 1, 6, 2, 4, 3] (by decide) (hs _ (by decide +kernel)) (hs _ (by decide +kernel)) (fun j hj => by
    have h9 : j = 0 ∨ j = 1 ∨ j = 2 ∨ j = 3 ∨ j = 4 ∨ j = 5 ∨ j = 6 := by simp only [List.length_cons, List.length_nil] at hj; omega
    rcases h9 with h9 | h9 | h9 | h9 | h9 | h9 | h9 <;> subst h9 <;> exact hs _ (by decide +kernel)) (hts _ (by decide +kernel)) (hts _ (by decide +kernel)) hA
  obtain ⟨t4, a4, b4⟩ := sp_arr (A := ab_A s.heap.size) "FULL_OF_4" [0, 1, 4, 6] (by decide) (hs _ (by decide +kernel)) (hs _ (by decide +kernel)) (fun j hj => by
    have h9 : j = 0 ∨ j = 1 ∨ j = 2 ∨ j = 3 := by simp only [List.length_cons, List.length_nil] at hj; omega
    rcases h9 with h9 | h9 | h9 | h9 <;> subst h9 <;> exact hs _ (by decide +kernel)) (hts _ (by decide +kernel)) (hts _ (by decide +kernel)) hA
  obtain ⟨t5, a5, b5⟩ := sp_arr (A := ab_A s.heap.size) "NO_LABELS" [] (by decide) (hs _ (by decide +kernel)) (hs _ (by decide +kernel)) (fun j hj => absurd hj (Nat.not_lt_zero j)) (hts _ (by decide +kernel)) (hts _ (by decide +kernel)) hA
  obtain ⟨t6, r6, c6⟩ := sp_str (A := ab_A s.heap.size) RX5 68 "net" [110, 101, 116] (by decide) (hts _ (by decide +kernel)) (hs _ (by decide +kernel)) (hs _ (by decide +kernel)) (hs _ (by decide +kernel)) (hs _ (by decide +kernel)) (fun j hj => by
    have h9 : j = 0 ∨ j = 1 ∨ j = 2 := by simp only [List.length_cons, List.length_nil] at hj; omega
    rcases h9 with h9 | h9 | h9 <;> subst h9 <;> exact hs _ (by decide +kernel)) hA
  obtain ⟨t7, r7, c7⟩ := sp_str (A := ab_A s.heap.size) RX5 92 "labels" [108, 97, 98, 101, 108, 115] (by decide) (hts _ (by decide +kernel)) (hs _ (by decide +kernel)) (hs _ (by decide +kernel)) (hs _ (by decide +kernel)) (hs _ (by decide +kernel)) (fun j hj => by
    have h9 : j = 0 ∨ j = 1 ∨ j = 2 ∨ j = 3 ∨ j = 4 ∨ j = 5 := by simp only [List.length_cons, List.length_nil] at hj; omega
    rcases h9 with h9 | h9 | h9 | h9 | h9 | h9 <;> subst h9 <;> exact hs _ (by decide +kernel)) hA
  obtain ⟨t8, r8, c8⟩ := sp_str (A := ab_A s.heap.size) RX9 171 "net" [110, 101, 116] (by decide) (hts _ (by decide +kernel)) (hs _ (by decide +kernel)) (hs _ (by decide +kernel)) (hs _ (by decide +kernel)) (hs _ (by decide +kernel)) (fun j hj => by
    have h9 : j = 0 ∨ j = 1 ∨ j = 2 := by simp only [List.length_cons, List.length_nil] at hj; omega
    rcases h9 with h9 | h9 | h9 <;> subst h9 <;> exact hs _ (by decide +kernel)) hA
  obtain ⟨t9, r9, c9⟩ := sp_str (A := ab_A s.heap.size) RX9 180 "labels" [108, 97, 98, 101, 108, 115] (by decide) (hts _ (by decide +kernel)) (hs _ (by decide +kernel)) (hs _ (by decide +kernel)) (hs _ (by decide +kernel)) (hs _ (by decide +kernel)) (fun j hj => by
    have h9 : j = 0 ∨ j = 1 ∨ j = 2 ∨ j = 3 ∨ j = 4 ∨ j = 5 := by simp only [List.length_cons, List.length_nil] at hj; omega
    rcases h9 with h9 | h9 | h9 | h9 | h9 | h9 <;> subst h9 <;> exact hs _ (by decide +kernel)) hA
  have hcomp : va_Z RJ0 "COMPACT_STRINGS" "Z" (.int 1) (ab_A s.heap.size) s s.heap := va_Zof (hts _ (by decide +kernel)) (hts _ (by decide +kernel)) (va_eqi (hs _ (by decide +kernel))) hA
  have hform : va_Zq RJ3 "SIOOBE_FORMATTER" "Ljava/util/function/BiFunction;" (ab_A s.heap.size) s s.heap := va_Zqof (hts _ (by decide +kernel)) (hts _ (by decide +kernel)) (hs _ (by decide +kernel)) hA
  -- the small machine's run
  obtain ⟨hp', hrun, hcells, hslots⟩ := hgoal ((List.range L).map xs) (by rw [List.length_map, List.length_range]; exact hL)
  obtain ⟨k, hk⟩ := ab_X_iff.mp hrun
  have hrom0 : va_T .int b ((List.range L).map xs).length (fun i => .int (((List.range L).map xs).getD i 0)) (ab_A s.heap.size) s s.heap := by
    obtain ⟨scr, g1, g2, g3, g4, g5⟩ := hX
    refine ⟨scr, g1, g2, g3, by rw [List.length_map, List.length_range]; exact Nat.le_of_eq g4.symm, by rw [List.length_map, List.length_range, g4] <;> rfl, fun j hj => ?_, hA b hbl⟩
    rw [List.length_map, List.length_range] at hj
    show scr.slots[j]? = some (Value.int (((List.range L).map xs).getD j 0))
    rw [g5 j hj, List.getD_eq_getElem?_getD, List.getElem?_map, List.getElem?_range hj]
    rfl
  have key : ∀ rv : Nat → Nat, rv 0 = b → rv 1 = t1 → rv 2 = t2 → rv 3 = t3 → rv 4 = t4 → rv 5 = t5 → rv 6 = t6 → rv 7 = t7 → rv 8 = t8 → rv 9 = t9 → ab_ro tx_S s.heap.size rv (ab_rom ((List.range L).map xs)) s := by
    intro rv e0 e1 e2 e3 e4 e5 e6 e7 e8 e9
    refine ⟨fun j ys hj => ?_, fun j h1 h5 => ?_, fun w hw => ?_, va_AO.of hao, ⟨⟨by rw [e6]; exact r6, by rw [e7]; exact r7, by rw [e8]; exact r8, by rw [e9]; exact r9⟩, fun j ys h6 hj => ?_, hcomp, hform⟩⟩
    · match j, hj with
      | 0, hj => cases hj; rw [e0]; exact hrom0
      | 1, hj => cases hj; rw [e1]; exact a1
      | 2, hj => cases hj; rw [e2]; exact a2
      | 3, hj => cases hj; rw [e3]; exact a3
      | 4, hj => cases hj; rw [e4]; exact a4
      | 5, hj => cases hj; rw [e5]; exact a5
      | j + 6, hj => simp [ab_rom] at hj
    · match j, h1, h5 with
      | 1, _, _ => rw [e1]; exact b1
      | 2, _, _ => rw [e2]; exact b2
      | 3, _, _ => rw [e3]; exact b3
      | 4, _, _ => rw [e4]; exact b4
      | 5, _, _ => rw [e5]; exact b5
    · have h9 := hts w (ab_nest_in w hw)
      simp only [ab_nest, List.mem_cons, List.not_mem_nil, or_false] at hw
      rcases hw with hw | hw | hw | hw <;> subst hw <;> exact va_Nw.of rfl h9
    · match j, h6, hj with
      | 6, _, hj => cases hj; rw [e6]; exact c6
      | 7, _, hj => cases hj; rw [e7]; exact c7
      | 8, _, hj => cases hj; rw [e8]; exact c8
      | 9, _, hj => cases hj; rw [e9]; exact c9
      | j + 10, _, hj => simp [ab_tx] at hj
  have hro := key (fun j => [b, t1, t2, t3, t4, t5, t6, t7, t8, t9].getD j 0) rfl rfl rfl rfl rfl rfl rfl rfl rfl rfl
  generalize hrv : (fun j => [b, t1, t2, t3, t4, t5, t6, t7, t8, t9].getD j 0) = rv at hro
  have hrv0 : rv 0 = b := by rw [← hrv]; rfl
  have hK : va_K (fun k => (Classical.choose (hcl k)).1, fun k => (Classical.choose (hcl k)).2) ab_vw (ab_ty (fun t => if t = 0 then cI else if t = 1 then cZ else cN)) s := by
    refine ⟨fun k z hz => Classical.choose_spec (hcl k) z hz, fun k z hz => ?_⟩
    match k, hz with
    | 0, hz => cases hz; exact ⟨fun n z => ⟨(fun k h => by cases h), kI, i2, coI, i3⟩, i1⟩
    | 1, hz => cases hz; exact ⟨fun n z => ⟨(fun k h => by cases h), kZ, z2, coZ, z3⟩, z1⟩
    | 2, hz => cases hz; exact ⟨fun n z => ⟨(fun k h => by cases h), kN, n3, coN, n4⟩, kN, coN, n3, n4, n1, n5⟩
    | k + 3, hz => simp [ab_ty] at hz
  generalize (fun k => (Classical.choose (hcl k)).1, fun k => (Classical.choose (hcl k)).2) = D at hK
  generalize (fun t => if t = 0 then cI else if t = 1 then cZ else cN) = cy at hK
  have X : ab_Cx tx_S p room_1 s m #[Value.ref b] meth c code 12 2 4 0 D cy s.heap.size rv (ab_rom ((List.range L).map xs)) := ⟨hx, hb, hml, hown, htsW, (fun h => by cases h), hK, hro, rfl, Nat.le_of_ble_eq_true rfl, Nat.le_of_ble_eq_true rfl⟩
  have hP0 : va_P D ab_vw (ab_w s.heap.size rv cy []) s.heap := fun k q h => by simp [ab_w] at h
  have hent := ab_entry s.heap.size rv [.ref ab_RO] (n := 4) (Nat.le_of_ble_eq_true rfl)
  have hargs : ([.ref ab_RO] : List Value).map (ab_v s.heap.size rv) = [.ref b] := by
    simp only [List.map_cons, List.map_nil, ab_v]
    rw [show ab_ad s.heap.size rv ab_RO = rv 0 from ab_ad_ro 0, hrv0]
  rw [hargs] at hent
  rw [lg_entry_eq]
  refine ab_body (l := l) (z0 := 0) (o := (some (.int 1), hp')) tx_ok X (ab_sound tx_ok l D cy s.heap.size rv (ab_rom ((List.range L).map xs)) 1500) ⟨Nat.le_of_ble_eq_true rfl, Nat.le_of_ble_eq_true rfl⟩ hcells hslots ?_ ?_ k 0 [.ref ab_RO, .null, .null, .null] [] [] hk s.heap [] 0 0 _ hP0 (Nat.zero_le _) va_S.rf hent rfl rfl
  · intro pc ls hp3 v3 hd ho hrt H locs cells slots als a1 a2 a3 a4 a5 a6
    cases ho
    refine va_forget (fun q hq => a3.2.2 q hq) ?_
    refine W.widen (k := 600000) (n := 7302250) (by omega) (by omega) ?_
    exact lw_ret hx hb hr hlocks hd
  · intro pc ls hp3 hd ho
    cases ho
