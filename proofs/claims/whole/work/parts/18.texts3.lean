theorem tx_P_of {B : Nat} {rv : Nat → Nat} {U : State} {j : Nat} {xs : List Int32} (h : tx_S B rv U) (h6 : 6 ≤ j) (hx : ab_tx[j]? = some xs) : tx_P B (rv j) xs U := by
  obtain ⟨-, h5, h7, h8⟩ := h
  obtain ⟨g1, g2, q, g3, g4⟩ := h5 j xs h6 hx
  exact ⟨g1, g2, ⟨q, g3, g4⟩, h7, h8⟩
def tx_cT9 : List (Nat × Nat × Nat × Nat × Nat × Nat) := [(3, 131, 9, 1000, 0, 0), (3, 136, 9, 1001, 1, 0), (7, 137, 9, 1000, 0, 0), (7, 143, 9, 1001, 1, 0)]
theorem tx_c9 : (ab_cT.filter (fun z => z.2.2.1 == 9)) = tx_cT9 := by decide +kernel
set_option maxHeartbeats 4000000 in
theorem tx_call {p : Program} {l : Launch} {e : Env} {R : Room} {s : State} {m : MethodId} {args : Array Value} {below : List Frame} {meth : Method} {c : Code} {H : Heap} {locs : List Loc} {cells slots : Nat} {Q : State → Prop} {cc : ByteArray} {pc : Nat} {ls : Array Slot} {rest : List Value} {cn k n B j : Nat} {rv : Nat → Nat} {As : List Value} {y : MethodName} {b : ByteArray} {nl : Nat} {rt : Option FieldType} {rm : Room} {r0 : Int32} {xs : List Int32}
    (hx : p.tables.exec = Jvm.exec) (hb : c.code = cc) (hml : c.maxLocals = ls.size) (hT : tx_S B rv s) (hown : s.vm.findClass (ab_cl cn) = some m.cls) (hts : ∀ w ∈ ab_W, w.before args s = true) (hd : decode cc pc = .ok (.invokevirtual k, 3)) (hc : cells ≤ R.cells) (hs : slots ≤ R.slots) (hS : va_S (ab_A B) s.heap H locs) (hrest : (rest.map fun v => v.category).sum ≤ 8)
    (h6 : 6 ≤ j) (hxs : ab_tx[j]? = some xs) (hAs : As.length = n) (w1 : Jvm.Cond.methodLink (ab_cl cn) k y ∈ ab_W) (w2 : Jvm.Cond.instanceMethod y ∈ ab_W) (w3 : Jvm.Cond.selects RJ0 y y ∈ ab_W) (w4 : Jvm.Cond.code y b nl rt ∈ ab_W) (hy : y.cls = RJ0) (hnp : (parseMethodDescriptor y.desc).map (fun d => d.parameters.length) = some n) (hrm : rm.cells = 0 ∧ rm.slots = 0 ∧ rm.frames + 1 ≤ R.frames ∧ 8 + (nl + 11) + rm.locals ≤ R.locals)
    (hM : ∀ H0, Met l y (.code y b nl rt :: ab_W) rm (va_Pc (.ref (rv j) :: As) (fun U => U.heap = H0 ∧ tx_P B (rv j) xs U)) (tx_Q r0 H0) 0 0 (fun _ => False))
    (kk : ∀ locs1, va_S (ab_A B) s.heap H locs1 → W p l e R s m args below meth c H locs1 cells slots Q (F0 m (pc + 3) ls (.int r0 :: rest))) : W p l e R s m args below meth c H locs cells slots Q (F0 m pc ls (As.reverse ++ .ref (rv j) :: rest)) := by
  obtain ⟨r1, r2, r3, r4⟩ := hrm
  obtain ⟨cellO, o1, o2, o3, o4⟩ := (tx_P_of hT h6 hxs).1.kept hS.2.1
  have hpre : ∀ U : State, U.heap = H → s.WarmedH U.vm → va_Pc (.ref (rv j) :: As) (fun U => U.heap = H ∧ tx_P B (rv j) xs U) (Value.ref (rv j) :: As).toArray U := fun U hU hW => ⟨rfl, hU, tx_P_of (tx_S_warm B rv s U hW (by rw [hU]; exact hS.2.1) hT) h6 hxs⟩
  refine va_calli (A1 := fun _ => False) (a := (Value.ref (rv j) :: As).toArray) (va_runV (C := RJ0) (b := rv j) (As := As) (rest := rest) ⟨hx, hb, hml, hown, hts⟩ (hM H) ⟨callB_of n hts (ab_good_code w4) rfl r1 r2 (by rw [hy]; exact hts _ sw_nRJ0) (hts _ w1) ⟨by rw [hy]; decide, by rw [hy]; decide, hnp⟩ ⟨r3, r4⟩, hts _ w2, hts _ w3⟩ ⟨fun a U g mk q => ⟨q.1, q.2.1, tx_P.moved (u := U) (U := U.calling g mk a) (Vm.Alike.refl U.vm) rfl q.2.2⟩, ⟨cellO, o1, o2, o3⟩, hpre⟩ rfl hAs rfl rfl (lv_room hrest) hd ⟨hc, hs⟩) hS (fun _ _ q => absurd q id) (fun _ q => absurd q id) (fun r u t H1 locs1 ht _ hr2 hB _ _ hS1 => ?_)
  have eH : H1 = H := by rw [← ht]; exact hB
  subst eH
  subst hr2
  exact kk locs1 hS1
set_option maxHeartbeats 4000000 in
theorem tx_ok : ab_SxOK tx_S := by
  refine ⟨tx_S_calling, tx_S_warm, ?_, ?_⟩
  · intro p l e R s m args below meth c H locs cells slots Q cc pc ls rest cn k j B rv hx hb hT hown hts hj hd kk
    have h1 := ab_lk_mem hj
    simp only [ab_rT, List.mem_cons, Prod.mk.injEq, List.not_mem_nil, or_false] at h1
    rcases h1 with ⟨z1, z2, z3⟩ | ⟨z1, z2, z3⟩ | ⟨z1, z2, z3⟩ | ⟨z1, z2, z3⟩ <;> subst z1 <;> subst z2 <;> subst z3
    · exact va_ldcS (own := RX5) hx hb hown hT.1.1 hd kk
    · exact va_ldcS (own := RX5) hx hb hown hT.1.2.1 hd kk
    · exact va_ldcS (own := RX9) hx hb hown hT.1.2.2.1 hd kk
    · exact va_ldcS (own := RX9) hx hb hown hT.1.2.2.2 hd kk
  · intro p l e R s m args below meth c H locs cells slots Q cc pc ls rest cn k mid n ci a B as rv v hp hp' hx hb hml hT hown hts hF hd hfr hlo hc hs hS hrest hn hpr kk
    have h1 : (cn, k, 9, mid, n, ci) ∈ tx_cT9 := by rw [← tx_c9]; exact List.mem_filter.mpr ⟨ab_lk_mem hF, rfl⟩
    simp only [tx_cT9, List.mem_cons, Prod.mk.injEq, List.not_mem_nil, or_false] at h1
    have key : ∃ j, 6 ≤ j ∧ ab_ad B rv a = rv j ∧ ∃ xs, ab_tx[j]? = some xs ∧ ((mid = 1000 ∧ as = [] ∧ v = some (.int (Int32.ofNat xs.length))) ∨ (mid = 1001 ∧ ∃ i v0, as = [.int i] ∧ ¬ i < 0 ∧ xs[i.toNatClampNeg]? = some v0 ∧ v = some (.int v0))) := by
      unfold ab_prim at hpr
      split at hpr
      · rename_i a0 heq
        cases heq
        obtain ⟨⟨g1, g2⟩, g3⟩ := ab_if hpr
        obtain ⟨xs, g4, g5⟩ := Option.map_eq_some_iff.mp g3
        cases g5
        refine ⟨a - ab_RO, by omega, ?_, xs, g4, Or.inl ⟨g1, rfl, rfl⟩⟩
        unfold ab_ad
        rw [if_neg (by omega)]
      · rename_i a0 i heq
        cases heq
        obtain ⟨⟨g1, g2, g6⟩, g3⟩ := ab_if hpr
        obtain ⟨xs, g4, g5⟩ := Option.bind_eq_some_iff.mp g3
        obtain ⟨v0, g7, g8⟩ := Option.map_eq_some_iff.mp g5
        cases g8
        refine ⟨a - ab_RO, by omega, ?_, xs, g4, Or.inr ⟨g1, i, v0, rfl, g6, g7, rfl⟩⟩
        unfold ab_ad
        rw [if_neg (by omega)]
      · cases hpr
    obtain ⟨j, h6, had, xs, hxs, hcase⟩ := key
    rw [had]
    obtain ⟨hN, hL⟩ := tx_texts h6 hxs
    rcases hcase with ⟨e1, e2, e3⟩ | ⟨e1, i, v0, e2, g6, g7, e3⟩
    · subst e1
      subst e2
      subst e3
      have w1 : Jvm.Cond.methodLink (ab_cl cn) k yJ0_length_8abf5 ∈ ab_W ∧ n = 0 := by
        rcases h1 with ⟨z1, z2, -, z3, z4, -⟩ | ⟨z1, z2, -, z3, z4, -⟩ | ⟨z1, z2, -, z3, z4, -⟩ | ⟨z1, z2, -, z3, z4, -⟩
        · subst z1; subst z2; exact ⟨sw_l3_131, z4⟩
        · cases z3
        · subst z1; subst z2; exact ⟨sw_l7_137, z4⟩
        · cases z3
      obtain ⟨w1, e4⟩ := w1
      exact tx_call (As := []) (n := 0) (rm := { frames := 1, cells := 0, slots := 0, locals := 20 }) hx hb hml hT hown hts hd hc hs hS hrest h6 hxs rfl w1 sw_ilen sw_slen sw_clen rfl (by decide +kernel) ⟨rfl, rfl, by show 1 + 1 ≤ _; omega, by show 8 + (1 + 11) + 20 ≤ _; omega⟩ (fun H0 => tx_len l B H0 (rv j) xs hN) kk
    · subst e1
      subst e2
      subst e3
      have w1 : Jvm.Cond.methodLink (ab_cl cn) k yJ0_charAt_5068e ∈ ab_W ∧ n = 1 := by
        rcases h1 with ⟨z1, z2, -, z3, z4, -⟩ | ⟨z1, z2, -, z3, z4, -⟩ | ⟨z1, z2, -, z3, z4, -⟩ | ⟨z1, z2, -, z3, z4, -⟩
        · cases z3
        · subst z1; subst z2; exact ⟨sw_l3_136, z4⟩
        · cases z3
        · subst z1; subst z2; exact ⟨sw_l7_143, z4⟩
      obtain ⟨w1, e4⟩ := w1
      exact tx_call (As := [.int i]) (n := 1) (rm := { frames := 3, cells := 0, slots := 0, locals := 64 }) hx hb hml hT hown hts hd hc hs hS hrest h6 hxs rfl w1 sw_ich sw_sch sw_cch rfl (by decide +kernel) ⟨rfl, rfl, by show 3 + 1 ≤ _; omega, by show 8 + (2 + 11) + 64 ≤ _; omega⟩ (fun H0 => tx_ch l B H0 (rv j) xs i v0 g6 g7 hN (hL v0 (List.mem_of_getElem? g7))) kk
