/-! TEXTS: their contracts -/
theorem dJ0_length_8abf5_0 : decode cJ0_length_8abf5 0 = .ok (.aload_n 0, 1) := by decide +kernel
theorem dJ0_length_8abf5_1 : decode cJ0_length_8abf5 1 = .ok (.getfield 9, 3) := by decide +kernel
theorem dJ0_length_8abf5_4 : decode cJ0_length_8abf5 4 = .ok (.arraylength, 1) := by decide +kernel
theorem dJ0_length_8abf5_5 : decode cJ0_length_8abf5 5 = .ok (.aload_n 0, 1) := by decide +kernel
theorem dJ0_length_8abf5_6 : decode cJ0_length_8abf5 6 = .ok (.invokevirtual 335, 3) := by decide +kernel
theorem dJ0_length_8abf5_9 : decode cJ0_length_8abf5 9 = .ok (.ishr, 1) := by decide +kernel
theorem dJ0_length_8abf5_10 : decode cJ0_length_8abf5 10 = .ok (.ireturn, 1) := by decide +kernel
theorem dJ0_charAt_5068e_0 : decode cJ0_charAt_5068e 0 = .ok (.aload_n 0, 1) := by decide +kernel
theorem dJ0_charAt_5068e_1 : decode cJ0_charAt_5068e 1 = .ok (.invokevirtual 492, 3) := by decide +kernel
theorem dJ0_charAt_5068e_4 : decode cJ0_charAt_5068e 4 = .ok (.ifCond .eq 12, 3) := by decide +kernel
theorem dJ0_charAt_5068e_7 : decode cJ0_charAt_5068e 7 = .ok (.aload_n 0, 1) := by decide +kernel
theorem dJ0_charAt_5068e_8 : decode cJ0_charAt_5068e 8 = .ok (.getfield 9, 3) := by decide +kernel
theorem dJ0_charAt_5068e_11 : decode cJ0_charAt_5068e 11 = .ok (.iload_n 1, 1) := by decide +kernel
theorem dJ0_charAt_5068e_12 : decode cJ0_charAt_5068e 12 = .ok (.invokestatic 495, 3) := by decide +kernel
theorem dJ0_charAt_5068e_15 : decode cJ0_charAt_5068e 15 = .ok (.ireturn, 1) := by decide +kernel
theorem dJ0_coder_7d493_0 : decode cJ0_coder_7d493 0 = .ok (.getstatic 38, 3) := by decide +kernel
theorem dJ0_coder_7d493_3 : decode cJ0_coder_7d493 3 = .ok (.ifCond .eq 10, 3) := by decide +kernel
theorem dJ0_coder_7d493_6 : decode cJ0_coder_7d493 6 = .ok (.aload_n 0, 1) := by decide +kernel
theorem dJ0_coder_7d493_7 : decode cJ0_coder_7d493 7 = .ok (.getfield 15, 3) := by decide +kernel
theorem dJ0_coder_7d493_10 : decode cJ0_coder_7d493 10 = .ok (.goto 4, 3) := by decide +kernel
theorem dJ0_coder_7d493_13 : decode cJ0_coder_7d493 13 = .ok (.iconst 1, 1) := by decide +kernel
theorem dJ0_coder_7d493_14 : decode cJ0_coder_7d493 14 = .ok (.ireturn, 1) := by decide +kernel
theorem dJ0_isLatin1_aae02_0 : decode cJ0_isLatin1_aae02 0 = .ok (.getstatic 38, 3) := by decide +kernel
theorem dJ0_isLatin1_aae02_3 : decode cJ0_isLatin1_aae02 3 = .ok (.ifCond .eq 14, 3) := by decide +kernel
theorem dJ0_isLatin1_aae02_6 : decode cJ0_isLatin1_aae02 6 = .ok (.aload_n 0, 1) := by decide +kernel
theorem dJ0_isLatin1_aae02_7 : decode cJ0_isLatin1_aae02 7 = .ok (.getfield 15, 3) := by decide +kernel
theorem dJ0_isLatin1_aae02_10 : decode cJ0_isLatin1_aae02 10 = .ok (.ifCond .ne 7, 3) := by decide +kernel
theorem dJ0_isLatin1_aae02_13 : decode cJ0_isLatin1_aae02 13 = .ok (.iconst 1, 1) := by decide +kernel
theorem dJ0_isLatin1_aae02_14 : decode cJ0_isLatin1_aae02 14 = .ok (.goto 4, 3) := by decide +kernel
theorem dJ0_isLatin1_aae02_17 : decode cJ0_isLatin1_aae02 17 = .ok (.iconst 0, 1) := by decide +kernel
theorem dJ0_isLatin1_aae02_18 : decode cJ0_isLatin1_aae02 18 = .ok (.ireturn, 1) := by decide +kernel
theorem dJ0_checkIndex_df160_0 : decode cJ0_checkIndex_df160 0 = .ok (.iload_n 0, 1) := by decide +kernel
theorem dJ0_checkIndex_df160_1 : decode cJ0_checkIndex_df160 1 = .ok (.iload_n 1, 1) := by decide +kernel
theorem dJ0_checkIndex_df160_2 : decode cJ0_checkIndex_df160 2 = .ok (.getstatic 1053, 3) := by decide +kernel
theorem dJ0_checkIndex_df160_5 : decode cJ0_checkIndex_df160 5 = .ok (.invokestatic 1059, 3) := by decide +kernel
theorem dJ0_checkIndex_df160_8 : decode cJ0_checkIndex_df160 8 = .ok (.pop, 1) := by decide +kernel
theorem dJ0_checkIndex_df160_9 : decode cJ0_checkIndex_df160 9 = .ok (.return_, 1) := by decide +kernel
theorem dJ1_charAt_3b067_0 : decode cJ1_charAt_3b067 0 = .ok (.iload_n 1, 1) := by decide +kernel
theorem dJ1_charAt_3b067_1 : decode cJ1_charAt_3b067 1 = .ok (.aload_n 0, 1) := by decide +kernel
theorem dJ1_charAt_3b067_2 : decode cJ1_charAt_3b067 2 = .ok (.arraylength, 1) := by decide +kernel
theorem dJ1_charAt_3b067_3 : decode cJ1_charAt_3b067 3 = .ok (.invokestatic 9, 3) := by decide +kernel
theorem dJ1_charAt_3b067_6 : decode cJ1_charAt_3b067 6 = .ok (.aload_n 0, 1) := by decide +kernel
theorem dJ1_charAt_3b067_7 : decode cJ1_charAt_3b067 7 = .ok (.iload_n 1, 1) := by decide +kernel
theorem dJ1_charAt_3b067_8 : decode cJ1_charAt_3b067 8 = .ok (.baload, 1) := by decide +kernel
theorem dJ1_charAt_3b067_9 : decode cJ1_charAt_3b067 9 = .ok (.sipush 255, 3) := by decide +kernel
theorem dJ1_charAt_3b067_12 : decode cJ1_charAt_3b067 12 = .ok (.iand, 1) := by decide +kernel
theorem dJ1_charAt_3b067_13 : decode cJ1_charAt_3b067 13 = .ok (.i2c, 1) := by decide +kernel
theorem dJ1_charAt_3b067_14 : decode cJ1_charAt_3b067 14 = .ok (.ireturn, 1) := by decide +kernel
theorem dJ3_checkIndex_8e157_0 : decode cJ3_checkIndex_8e157 0 = .ok (.iload_n 0, 1) := by decide +kernel
theorem dJ3_checkIndex_8e157_1 : decode cJ3_checkIndex_8e157 1 = .ok (.ifCond .lt 8, 3) := by decide +kernel
theorem dJ3_checkIndex_8e157_4 : decode cJ3_checkIndex_8e157 4 = .ok (.iload_n 0, 1) := by decide +kernel
theorem dJ3_checkIndex_8e157_5 : decode cJ3_checkIndex_8e157 5 = .ok (.iload_n 1, 1) := by decide +kernel
theorem dJ3_checkIndex_8e157_6 : decode cJ3_checkIndex_8e157 6 = .ok (.if_icmp .lt 10, 3) := by decide +kernel
theorem dJ3_checkIndex_8e157_16 : decode cJ3_checkIndex_8e157 16 = .ok (.iload_n 0, 1) := by decide +kernel
theorem dJ3_checkIndex_8e157_17 : decode cJ3_checkIndex_8e157 17 = .ok (.ireturn, 1) := by decide +kernel
/-- what texts are: constants by their places, their bytes, the JDK's statics that they read -/
def tx_S : ab_SX := fun B rv U =>
  (vk_R RX5 68 "net" (rv 6) U ∧ vk_R RX5 92 "labels" (rv 7) U ∧ vk_R RX9 171 "net" (rv 8) U ∧ vk_R RX9 180 "labels" (rv 9) U) ∧
  (∀ (j : Nat) (xs : List Int32), 6 ≤ j → ab_tx[j]? = some xs → va_O RJ0 (rv j) (ab_A B) U U.heap ∧ va_OF RJ0 "coder" "B" (.int 0) (rv j) (ab_A B) U U.heap ∧ ∃ q, va_OF RJ0 "value" "[B" (.ref q) (rv j) (ab_A B) U U.heap ∧ va_T .byte q xs.length (fun i => .int (xs.getD i 0)) (ab_A B) U U.heap) ∧
  va_Z RJ0 "COMPACT_STRINGS" "Z" (.int 1) (ab_A B) U U.heap ∧ va_Zq RJ3 "SIOOBE_FORMATTER" "Ljava/util/function/BiFunction;" (ab_A B) U U.heap
theorem tx_S_calling (B : Nat) (rv : Nat → Nat) (U : State) (g : JFrame) (mk : MethodId) (a : Array Value) (h : tx_S B rv U) : tx_S B rv (U.calling g mk a) := by
  obtain ⟨⟨h1, h2, h3, h4⟩, h5, h6, h7⟩ := h
  refine ⟨⟨vk_R.same rfl h1, vk_R.same rfl h2, vk_R.same rfl h3, vk_R.same rfl h4⟩, fun j xs hj hx => ?_, va_Z.moved (u := U) (U := U.calling g mk a) (Vm.Alike.refl U.vm) h6, va_Zq.moved (u := U) (U := U.calling g mk a) (Vm.Alike.refl U.vm) h7⟩
  obtain ⟨g1, g2, q, g3, g4⟩ := h5 j xs hj hx
  exact ⟨va_O.moved (u := U) (U := U.calling g mk a) (Vm.Alike.refl U.vm) g1, va_OF.moved (u := U) (U := U.calling g mk a) (Vm.Alike.refl U.vm) g2, q, va_OF.moved (u := U) (U := U.calling g mk a) (Vm.Alike.refl U.vm) g3, va_T.moved (u := U) (U := U.calling g mk a) (Vm.Alike.refl U.vm) g4⟩
theorem tx_S_warm (B : Nat) (rv : Nat → Nat) (s U : State) (hW : s.WarmedH U.vm) (hk : ∀ q : Nat, q < s.heap.size → ¬ ab_A B q → U.heap[q]? = s.heap[q]?) (h : tx_S B rv s) : tx_S B rv U := by
  obtain ⟨⟨h1, h2, h3, h4⟩, h5, h6, h7⟩ := h
  refine ⟨⟨h1.warm hW, h2.warm hW, h3.warm hW, h4.warm hW⟩, fun j xs hj hx => ?_, (va_Z.moved hW.alike h6).kept hk, (va_Zq.moved hW.alike h7).kept hk⟩
  obtain ⟨g1, g2, q, g3, g4⟩ := h5 j xs hj hx
  exact ⟨(va_O.moved hW.alike g1).kept hk, (va_OF.moved hW.alike g2).kept hk, q, (va_OF.moved hW.alike g3).kept hk, (va_T.moved hW.alike g4).kept hk⟩
abbrev tx_Q (r0 : Int32) (H0 : Heap) : Array Value → State → Outcome → State → Prop := va_Qi (fun (r : Int32) (_ : Unit) => r = r0) (fun _ t => t.heap = H0) (fun _ => False)
theorem tx_lt {i : Int32} {N : Nat} (h0 : ¬ i < 0) (h : i.toNatClampNeg < N) (hN : N < 1000) : i < Int32.ofNat N := by
  rw [Int32.lt_iff_toInt_lt, Int32.toInt_ofNat_of_lt (by omega)]
  have h1 : i.toInt.toNat = i.toNatClampNeg := Int32.toNat_toInt i
  omega
set_option maxHeartbeats 4000000 in
theorem tx_pc (l : Launch) (H0 : Heap) (i n : Int32) (fv : Value) (hf : fv.category = 1) (h0 : ¬ i < 0) (h1 : i < n) : Met l yJ3_checkIndex_8e157 (.code yJ3_checkIndex_8e157 cJ3_checkIndex_8e157 3 (some .int) :: ab_W) { frames := 0, cells := 0, slots := 0, locals := 0 } (va_Pc [.int i, .int n, fv] (fun U => U.heap = H0)) (tx_Q i H0) 0 0 (fun _ => False) := by
  refine Met.ofW (cc := cJ3_checkIndex_8e157) (maxL := 3) (ret := some .int) (by decide) rfl ?_
  intro p e s m args below meth c s₁ Bd hml hv
  obtain ⟨rfl, hH⟩ := hv
  have hx := Bd.exec
  have hb := Bd.bytes
  have hr := Bd.returns
  have hlocks := Bd.notSynchronized
  have hS : va_S (fun _ => False) s.heap s.heap [] := va_S.rf
  have hl := lv_entry ([.int i, .int n, fv]) (n := 3) (by cases fv <;> first | exact Nat.le_of_ble_eq_true rfl | (simp [Value.category] at hf))
  rw [lg_entry_eq]
  generalize (lg_sl ([.int i, .int n, fv]) ++ List.replicate (3 - (lg_sl ([.int i, .int n, fv])).length) Slot.unset).toArray = ls at hl ⊢
  have hl : lv_has ls 3 [(0, .int i), (1, .int n), (2, fv)] := hl
  refine lv_iload_n hx hb dJ3_checkIndex_8e157_0 rfl (lv_at hl 0 rfl) ?_
  refine lv_if_lt (tgt := 9) hx hb dJ3_checkIndex_8e157_1 (by decide) (fun q => absurd q h0) (fun _ => ?_)
  refine lv_iload_n hx hb dJ3_checkIndex_8e157_4 rfl (lv_at hl 0 rfl) ?_
  refine lv_iload_n hx hb dJ3_checkIndex_8e157_5 rfl (lv_at hl 1 rfl) ?_
  refine lv_icmp_lt (tgt := 16) hx hb dJ3_checkIndex_8e157_6 (by decide) (fun _ => ?_) (fun q => absurd h1 q)
  refine lv_iload_n hx hb dJ3_checkIndex_8e157_16 rfl (lv_at hl 0 rfl) ?_
  exact W.iret (v := i) hx hb hr (fun t ht hW => ⟨⟨i, (), rfl, rfl, ht.trans hH⟩, hS.F ht⟩) hS.2.2 dJ3_checkIndex_8e157_17 hlocks
set_option maxHeartbeats 4000000 in
theorem tx_ck (l : Launch) (B : Nat) (H0 : Heap) (i n : Int32) (h0 : ¬ i < 0) (h1 : i < n) : Met l yJ0_checkIndex_df160 (.code yJ0_checkIndex_df160 cJ0_checkIndex_df160 2 none :: ab_W) { frames := 1, cells := 0, slots := 0, locals := 22 } (va_Pc [.int i, .int n] (fun U => U.heap = H0 ∧ va_Zq RJ3 "SIOOBE_FORMATTER" "Ljava/util/function/BiFunction;" (ab_A B) U U.heap)) (va_Qv (fun _ : Unit => True) (fun _ t => t.heap = H0) (fun _ => False)) 0 0 (fun _ => False) := by
  refine Met.ofW (cc := cJ0_checkIndex_df160) (maxL := 2) (ret := none) (by decide) rfl ?_
  intro p e s m args below meth c s₁ Bd hml hv
  obtain ⟨rfl, hH, hZ⟩ := hv
  have hx := Bd.exec
  have hb := Bd.bytes
  have hr := Bd.returns
  have hlocks := Bd.notSynchronized
  have hts0 := atoms_spec (ws := Jvm.Cond.code yJ0_checkIndex_df160 cJ0_checkIndex_df160 2 none :: ab_W) Bd.pre
  have hts : ∀ w ∈ ab_W, w.before [Value.int i, Value.int n].toArray s = true := fun w hw => hts0 w (List.mem_cons_of_mem _ hw)
  have hown : s.vm.findClass RJ0 = some m.cls := findClass_of_methodNamed Bd.named
  have hS : va_S (fun _ => False) s.heap s.heap [] := va_S.rf
  have hSA : va_S (ab_A B) s.heap s.heap [] := va_S.rf
  have hl := lv_entry ([.int i, .int n]) (n := 2) (Nat.le_of_ble_eq_true rfl)
  rw [lg_entry_eq]
  generalize (lg_sl ([.int i, .int n]) ++ List.replicate (2 - (lg_sl ([.int i, .int n])).length) Slot.unset).toArray = ls at hl ⊢
  have hl : lv_has ls 2 [(0, .int i), (1, .int n)] := hl
  refine lv_iload_n hx hb dJ0_checkIndex_df160_0 rfl (lv_at hl 0 rfl) ?_
  refine lv_iload_n hx hb dJ0_checkIndex_df160_1 rfl (lv_at hl 1 rfl) ?_
  have go : ∀ fv : Value, fv.category = 1 → W p l e (headSpec (Jvm.Cond.code yJ0_checkIndex_df160 cJ0_checkIndex_df160 2 none :: ab_W) { frames := 1, cells := 0, slots := 0, locals := 22 }).room s m [Value.int i, Value.int n].toArray below meth c s.heap [] 0 0 (MQ below (va_Qv (fun _ : Unit => True) (fun _ t => t.heap = H0) (fun _ => False)) [Value.int i, Value.int n].toArray s 0 0 (fun _ => False)) (F0 m 5 ls [fv, .int n, .int i]) := by
    intro fv hfv
    refine va_calli (a := [Value.int i, Value.int n, fv].toArray) (va_runS (As := [.int i, .int n, fv]) (rest := []) ⟨hx, hb, hml, hown, hts⟩ (tx_pc l s.heap i n fv hfv h0 h1) ⟨callB_of 3 hts (ab_good_code sw_cyp) rfl rfl rfl (hts _ sw_nRJ3) (hts _ sw_m1059) (by decide +kernel) ⟨Nat.le_of_ble_eq_true rfl, Nat.le_of_ble_eq_true rfl⟩, hts _ sw_typ⟩ ⟨fun a U g mk q => q, fun U hU hW => ⟨rfl, hU⟩⟩ rfl rfl hl.1 rfl (lv_room (Nat.le_of_ble_eq_true rfl)) dJ0_checkIndex_df160_5 ⟨Nat.le_of_ble_eq_true rfl, Nat.le_of_ble_eq_true rfl⟩) hS (fun _ _ q => q) (fun _ q => q) (fun r u t H1 locs1 ht _ hr2 hB _ _ hS1 => ?_)
    have eH : H1 = s.heap := by rw [← ht]; exact hB
    subst eH
    refine lv_pop hx hb dJ0_checkIndex_df160_8 rfl ?_
    exact W.vret hx hb hr (fun t ht hW => ⟨⟨(), rfl, trivial, ht.trans hH⟩, hS1.F ht⟩) hS1.2.2 dJ0_checkIndex_df160_9 hlocks
  rcases hZ with hZ | ⟨t, hZ⟩
  · exact va_gets (ref := RJ3) hx hb hZ hSA hown (hts _ sw_f1053) (fun _ q => q) dJ0_checkIndex_df160_2 (go .null rfl)
  · exact va_gets (ref := RJ3) hx hb hZ hSA hown (hts _ sw_f1053) (fun _ q => q) dJ0_checkIndex_df160_2 (go (.ref t) rfl)
def tx_L : List Int32 := [97, 98, 101, 108, 110, 115, 116]
theorem tx_L1 : ∀ v ∈ tx_L, ((v &&& (Int16.ofInt 255).toInt32).toUInt32 % 65536).toInt32 = v ∧ narrow .char (.int v) = .int v := by decide +kernel
set_option maxHeartbeats 4000000 in
theorem tx_c1 (l : Launch) (B : Nat) (H0 : Heap) (q : Nat) (xs : List Int32) (i v : Int32) (h0 : ¬ i < 0) (hv : xs[i.toNatClampNeg]? = some v) (hN : xs.length < 1000) (hvL : v ∈ tx_L) : Met l yJ1_charAt_3b067 (.code yJ1_charAt_3b067 cJ1_charAt_3b067 2 (some .char) :: ab_W) { frames := 2, cells := 0, slots := 0, locals := 43 } (va_Pc [.ref q, .int i] (fun U => U.heap = H0 ∧ va_Zq RJ3 "SIOOBE_FORMATTER" "Ljava/util/function/BiFunction;" (ab_A B) U U.heap ∧ va_T .byte q xs.length (fun i => .int (xs.getD i 0)) (ab_A B) U U.heap)) (tx_Q v H0) 0 0 (fun _ => False) := by
  refine Met.ofW (cc := cJ1_charAt_3b067) (maxL := 2) (ret := some .char) (by decide) rfl ?_
  intro p e s m args below meth c s₁ Bd hml hv9
  obtain ⟨rfl, hH, hZ, hT⟩ := hv9
  have hx := Bd.exec
  have hb := Bd.bytes
  have hr := Bd.returns
  have hlocks := Bd.notSynchronized
  have hts0 := atoms_spec (ws := Jvm.Cond.code yJ1_charAt_3b067 cJ1_charAt_3b067 2 (some .char) :: ab_W) Bd.pre
  have hts : ∀ w ∈ ab_W, w.before [Value.ref q, Value.int i].toArray s = true := fun w hw => hts0 w (List.mem_cons_of_mem _ hw)
  have hown : s.vm.findClass RJ1 = some m.cls := findClass_of_methodNamed Bd.named
  have hS : va_S (fun _ => False) s.heap s.heap [] := va_S.rf
  have hSA : va_S (ab_A B) s.heap s.heap [] := va_S.rf
  have hlt : i.toNatClampNeg < xs.length := (List.getElem?_eq_some_iff.mp hv).1
  have hl := lv_entry ([.ref q, .int i]) (n := 2) (Nat.le_of_ble_eq_true rfl)
  rw [lg_entry_eq]
  generalize (lg_sl ([.ref q, .int i]) ++ List.replicate (2 - (lg_sl ([.ref q, .int i])).length) Slot.unset).toArray = ls at hl ⊢
  have hl : lv_has ls 2 [(0, .ref q), (1, .int i)] := hl
  refine lv_iload_n hx hb dJ1_charAt_3b067_0 rfl (lv_at hl 1 rfl) ?_
  refine lv_aload_n hx hb dJ1_charAt_3b067_1 rfl (lv_at hl 0 rfl) ?_
  refine va_tlen hx hb hT hSA rfl dJ1_charAt_3b067_2 ?_
  refine va_callv (a := [Value.int i, Value.int (Int32.ofNat xs.length)].toArray) (va_runS (As := [.int i, .int (Int32.ofNat xs.length)]) (rest := []) ⟨hx, hb, hml, hown, hts⟩ (tx_ck l B s.heap i (Int32.ofNat xs.length) h0 (tx_lt h0 hlt hN)) ⟨callB_of 2 hts (ab_good_code sw_cck) rfl rfl rfl (hts _ sw_nRJ0) (hts _ sw_m9) (by decide +kernel) ⟨Nat.le_of_ble_eq_true rfl, Nat.le_of_ble_eq_true rfl⟩, hts _ sw_tck⟩ ⟨fun a U g mk q => ⟨q.1, q.2.1, va_Zq.moved (u := U) (U := U.calling g mk a) (Vm.Alike.refl U.vm) q.2.2⟩, fun U hU hW => ⟨rfl, hU, by rw [hU]; exact va_Zq.moved hW.alike hZ⟩⟩ rfl rfl hl.1 rfl (lv_room (Nat.le_of_ble_eq_true rfl)) dJ1_charAt_3b067_3 ⟨Nat.le_of_ble_eq_true rfl, Nat.le_of_ble_eq_true rfl⟩) hS (fun _ _ q => q) (fun _ q => q) (fun u t H1 locs1 ht _ _ hB _ _ hS1 => ?_)
  have eH : H1 = s.heap := by rw [← ht]; exact hB
  subst eH
  refine lv_aload_n hx hb dJ1_charAt_3b067_6 rfl (lv_at hl 0 rfl) ?_
  refine lv_iload_n hx hb dJ1_charAt_3b067_7 rfl (lv_at hl 1 rfl) ?_
  have ev : xs.getD i.toNatClampNeg 0 = v := by rw [List.getD_eq_getElem?_getD, hv]; rfl
  have hSA1 : va_S (ab_A B) s.heap s.heap locs1 := ⟨Nat.le_refl _, fun _ _ _ => rfl, fun z hz => absurd (hS1.2.2 z hz) id⟩
  refine va_tb (v := .int v) hx hb hT hSA1 (ab_in_of h0 hlt) (by show Value.int (xs.getD i.toNatClampNeg 0) = _; rw [ev]) dJ1_charAt_3b067_8 ?_
  refine lv_sipush hx hb dJ1_charAt_3b067_9 rfl ?_
  refine lv_iand hx hb dJ1_charAt_3b067_12 ?_
  refine lv_i2c hx hb dJ1_charAt_3b067_13 (tx_L1 v hvL).1 ?_
  exact W.zret (v := v) (ty := .char) hx hb hr (tx_L1 v hvL).2 (fun t ht hW => ⟨⟨v, (), rfl, rfl, ht.trans hH⟩, hS1.F ht⟩) hS1.2.2 dJ1_charAt_3b067_14 hlocks
