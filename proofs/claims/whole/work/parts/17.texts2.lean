set_option maxHeartbeats 4000000 in
theorem tx_cod (l : Launch) (B : Nat) (H0 : Heap) (a : Nat) : Met l yJ0_coder_7d493 (.code yJ0_coder_7d493 cJ0_coder_7d493 1 (some .byte) :: ab_W) { frames := 0, cells := 0, slots := 0, locals := 0 } (va_Pc [.ref a] (fun U => U.heap = H0 ∧ va_Z RJ0 "COMPACT_STRINGS" "Z" (.int 1) (ab_A B) U U.heap ∧ va_OF RJ0 "coder" "B" (.int 0) a (ab_A B) U U.heap)) (tx_Q 0 H0) 0 0 (fun _ => False) := by
  refine Met.ofW (cc := cJ0_coder_7d493) (maxL := 1) (ret := some .byte) (by decide) rfl ?_
  intro p e s m args below meth c s₁ Bd hml hv9
  obtain ⟨rfl, hH, hZ, hC⟩ := hv9
  have hx := Bd.exec
  have hb := Bd.bytes
  have hr := Bd.returns
  have hlocks := Bd.notSynchronized
  have hts0 := atoms_spec (ws := Jvm.Cond.code yJ0_coder_7d493 cJ0_coder_7d493 1 (some .byte) :: ab_W) Bd.pre
  have hts : ∀ w ∈ ab_W, w.before [Value.ref a].toArray s = true := fun w hw => hts0 w (List.mem_cons_of_mem _ hw)
  have hown : s.vm.findClass RJ0 = some m.cls := findClass_of_methodNamed Bd.named
  have hS : va_S (fun _ => False) s.heap s.heap [] := va_S.rf
  have hSA : va_S (ab_A B) s.heap s.heap [] := va_S.rf
  have hl := lv_entry ([.ref a]) (n := 1) (Nat.le_of_ble_eq_true rfl)
  rw [lg_entry_eq]
  generalize (lg_sl ([.ref a]) ++ List.replicate (1 - (lg_sl ([.ref a])).length) Slot.unset).toArray = ls at hl ⊢
  have hl : lv_has ls 1 [(0, .ref a)] := hl
  refine va_gets (ref := RJ0) hx hb hZ hSA hown (hts _ sw_f38) (fun _ q => q) dJ0_coder_7d493_0 ?_
  refine lv_if_eq (tgt := 13) hx hb dJ0_coder_7d493_3 (by decide) (fun q => absurd q (by decide)) (fun _ => ?_)
  refine lv_aload_n hx hb dJ0_coder_7d493_6 rfl (lv_at hl 0 rfl) ?_
  refine vk_getf (ref := RJ0) hx hb hC hSA hown (hts _ sw_f15) (fun _ q => q) dJ0_coder_7d493_7 ?_
  refine lv_goto (tgt := 14) hx hb dJ0_coder_7d493_10 (by decide) ?_
  exact W.zret (v := 0) (ty := .byte) hx hb hr (by decide) (fun t ht hW => ⟨⟨0, (), rfl, rfl, ht.trans hH⟩, hS.F ht⟩) hS.2.2 dJ0_coder_7d493_14 hlocks
set_option maxHeartbeats 4000000 in
theorem tx_is (l : Launch) (B : Nat) (H0 : Heap) (a : Nat) : Met l yJ0_isLatin1_aae02 (.code yJ0_isLatin1_aae02 cJ0_isLatin1_aae02 1 (some .boolean) :: ab_W) { frames := 0, cells := 0, slots := 0, locals := 0 } (va_Pc [.ref a] (fun U => U.heap = H0 ∧ va_Z RJ0 "COMPACT_STRINGS" "Z" (.int 1) (ab_A B) U U.heap ∧ va_OF RJ0 "coder" "B" (.int 0) a (ab_A B) U U.heap)) (tx_Q 1 H0) 0 0 (fun _ => False) := by
  refine Met.ofW (cc := cJ0_isLatin1_aae02) (maxL := 1) (ret := some .boolean) (by decide) rfl ?_
  intro p e s m args below meth c s₁ Bd hml hv9
  obtain ⟨rfl, hH, hZ, hC⟩ := hv9
  have hx := Bd.exec
  have hb := Bd.bytes
  have hr := Bd.returns
  have hlocks := Bd.notSynchronized
  have hts0 := atoms_spec (ws := Jvm.Cond.code yJ0_isLatin1_aae02 cJ0_isLatin1_aae02 1 (some .boolean) :: ab_W) Bd.pre
  have hts : ∀ w ∈ ab_W, w.before [Value.ref a].toArray s = true := fun w hw => hts0 w (List.mem_cons_of_mem _ hw)
  have hown : s.vm.findClass RJ0 = some m.cls := findClass_of_methodNamed Bd.named
  have hS : va_S (fun _ => False) s.heap s.heap [] := va_S.rf
  have hSA : va_S (ab_A B) s.heap s.heap [] := va_S.rf
  have hl := lv_entry ([.ref a]) (n := 1) (Nat.le_of_ble_eq_true rfl)
  rw [lg_entry_eq]
  generalize (lg_sl ([.ref a]) ++ List.replicate (1 - (lg_sl ([.ref a])).length) Slot.unset).toArray = ls at hl ⊢
  have hl : lv_has ls 1 [(0, .ref a)] := hl
  refine va_gets (ref := RJ0) hx hb hZ hSA hown (hts _ sw_f38) (fun _ q => q) dJ0_isLatin1_aae02_0 ?_
  refine lv_if_eq (tgt := 17) hx hb dJ0_isLatin1_aae02_3 (by decide) (fun q => absurd q (by decide)) (fun _ => ?_)
  refine lv_aload_n hx hb dJ0_isLatin1_aae02_6 rfl (lv_at hl 0 rfl) ?_
  refine vk_getf (ref := RJ0) hx hb hC hSA hown (hts _ sw_f15) (fun _ q => q) dJ0_isLatin1_aae02_7 ?_
  refine lv_if_ne (tgt := 17) hx hb dJ0_isLatin1_aae02_10 (by decide) (fun q => absurd rfl q) (fun _ => ?_)
  refine lv_iconst (v := 1) hx hb dJ0_isLatin1_aae02_13 (by decide) ?_
  refine lv_goto (tgt := 18) hx hb dJ0_isLatin1_aae02_14 (by decide) ?_
  exact W.zret (v := 1) (ty := .boolean) hx hb hr (by decide) (fun t ht hW => ⟨⟨1, (), rfl, rfl, ht.trans hH⟩, hS.F ht⟩) hS.2.2 dJ0_isLatin1_aae02_18 hlocks
/-- a text at a, of the bytes xs -/
def tx_P (B a : Nat) (xs : List Int32) (U : State) : Prop := va_O RJ0 a (ab_A B) U U.heap ∧ va_OF RJ0 "coder" "B" (.int 0) a (ab_A B) U U.heap ∧ (∃ q, va_OF RJ0 "value" "[B" (.ref q) a (ab_A B) U U.heap ∧ va_T .byte q xs.length (fun i => .int (xs.getD i 0)) (ab_A B) U U.heap) ∧ va_Z RJ0 "COMPACT_STRINGS" "Z" (.int 1) (ab_A B) U U.heap ∧ va_Zq RJ3 "SIOOBE_FORMATTER" "Ljava/util/function/BiFunction;" (ab_A B) U U.heap
theorem tx_P.moved {B a : Nat} {xs : List Int32} {u U : State} (hvm : u.vm.Alike U.vm) (hH : U.heap = u.heap) (h : tx_P B a xs u) : tx_P B a xs U := by
  obtain ⟨h1, h2, ⟨q, h3, h4⟩, h5, h6⟩ := h
  unfold tx_P
  rw [hH]
  exact ⟨va_O.moved hvm h1, va_OF.moved hvm h2, ⟨q, va_OF.moved hvm h3, va_T.moved hvm h4⟩, va_Z.moved hvm h5, va_Zq.moved hvm h6⟩
set_option maxHeartbeats 4000000 in
theorem tx_len (l : Launch) (B : Nat) (H0 : Heap) (a : Nat) (xs : List Int32) (hN : xs.length < 1000) : Met l yJ0_length_8abf5 (.code yJ0_length_8abf5 cJ0_length_8abf5 1 (some .int) :: ab_W) { frames := 1, cells := 0, slots := 0, locals := 20 } (va_Pc [.ref a] (fun U => U.heap = H0 ∧ tx_P B a xs U)) (tx_Q (Int32.ofNat xs.length) H0) 0 0 (fun _ => False) := by
  refine Met.ofW (cc := cJ0_length_8abf5) (maxL := 1) (ret := some .int) (by decide) rfl ?_
  intro p e s m args below meth c s₁ Bd hml hv9
  obtain ⟨rfl, hH, hO, hC, ⟨q, hV, hT⟩, hZ, hF⟩ := hv9
  have hx := Bd.exec
  have hb := Bd.bytes
  have hr := Bd.returns
  have hlocks := Bd.notSynchronized
  have hts0 := atoms_spec (ws := Jvm.Cond.code yJ0_length_8abf5 cJ0_length_8abf5 1 (some .int) :: ab_W) Bd.pre
  have hts : ∀ w ∈ ab_W, w.before [Value.ref a].toArray s = true := fun w hw => hts0 w (List.mem_cons_of_mem _ hw)
  have hown : s.vm.findClass RJ0 = some m.cls := findClass_of_methodNamed Bd.named
  have hS : va_S (fun _ => False) s.heap s.heap [] := va_S.rf
  have hSA : va_S (ab_A B) s.heap s.heap [] := va_S.rf
  have hl := lv_entry ([.ref a]) (n := 1) (Nat.le_of_ble_eq_true rfl)
  rw [lg_entry_eq]
  generalize (lg_sl ([.ref a]) ++ List.replicate (1 - (lg_sl ([.ref a])).length) Slot.unset).toArray = ls at hl ⊢
  have hl : lv_has ls 1 [(0, .ref a)] := hl
  refine lv_aload_n hx hb dJ0_length_8abf5_0 rfl (lv_at hl 0 rfl) ?_
  refine vk_getf (ref := RJ0) hx hb hV hSA hown (hts _ sw_f9) (fun _ q => q) dJ0_length_8abf5_1 ?_
  refine va_tlen hx hb hT hSA rfl dJ0_length_8abf5_4 ?_
  refine lv_aload_n hx hb dJ0_length_8abf5_5 rfl (lv_at hl 0 rfl) ?_
  obtain ⟨cellO, o1, o2, o3, o4⟩ := hO
  refine va_calli (a := [Value.ref a].toArray) (va_runV (C := RJ0) (b := a) (As := []) (rest := [.int (Int32.ofNat xs.length)]) ⟨hx, hb, hml, hown, hts⟩ (tx_cod l B s.heap a) ⟨callB_of 0 hts (ab_good_code sw_ccod) rfl rfl rfl (hts _ sw_nRJ0) (hts _ sw_m335) (by decide +kernel) ⟨Nat.le_of_ble_eq_true rfl, Nat.le_of_ble_eq_true rfl⟩, hts _ sw_icod, hts _ sw_scod⟩ ⟨fun a U g mk q => ⟨q.1, q.2.1, va_Z.moved (u := U) (U := U.calling g mk a) (Vm.Alike.refl U.vm) q.2.2.1, va_OF.moved (u := U) (U := U.calling g mk a) (Vm.Alike.refl U.vm) q.2.2.2⟩, ⟨cellO, o1, o2, o3⟩, fun U hU hW => ⟨rfl, hU, by rw [hU]; exact va_Z.moved hW.alike hZ, by rw [hU]; exact va_OF.moved hW.alike hC⟩⟩ rfl rfl hl.1 rfl (lv_room (Nat.le_of_ble_eq_true rfl)) dJ0_length_8abf5_6 ⟨Nat.le_of_ble_eq_true rfl, Nat.le_of_ble_eq_true rfl⟩) hS (fun _ _ q => q) (fun _ q => q) (fun r u t H1 locs1 ht _ hr2 hB _ _ hS1 => ?_)
  have eH : H1 = s.heap := by rw [← ht]; exact hB
  subst eH
  subst hr2
  refine lv_ishr hx hb dJ0_length_8abf5_9 ?_
  have e9 : Int32.ofNat xs.length >>> ((0 : Int32) &&& 31) = Int32.ofNat xs.length := by
    rw [show ((0 : Int32) &&& 31) = 0 from by decide]
    apply Int32.toBitVec.inj
    simp
  rw [e9]
  exact W.iret (v := Int32.ofNat xs.length) hx hb hr (fun t ht hW => ⟨⟨Int32.ofNat xs.length, (), rfl, rfl, ht.trans hH⟩, hS1.F ht⟩) hS1.2.2 dJ0_length_8abf5_10 hlocks
set_option maxHeartbeats 4000000 in
theorem tx_ch (l : Launch) (B : Nat) (H0 : Heap) (a : Nat) (xs : List Int32) (i v : Int32) (h0 : ¬ i < 0) (hv : xs[i.toNatClampNeg]? = some v) (hN : xs.length < 1000) (hvL : v ∈ tx_L) : Met l yJ0_charAt_5068e (.code yJ0_charAt_5068e cJ0_charAt_5068e 2 (some .char) :: ab_W) { frames := 3, cells := 0, slots := 0, locals := 64 } (va_Pc [.ref a, .int i] (fun U => U.heap = H0 ∧ tx_P B a xs U)) (tx_Q v H0) 0 0 (fun _ => False) := by
  refine Met.ofW (cc := cJ0_charAt_5068e) (maxL := 2) (ret := some .char) (by decide) rfl ?_
  intro p e s m args below meth c s₁ Bd hml hv9
  obtain ⟨rfl, hH, hO, hC, ⟨q, hV, hT⟩, hZ, hF⟩ := hv9
  have hx := Bd.exec
  have hb := Bd.bytes
  have hr := Bd.returns
  have hlocks := Bd.notSynchronized
  have hts0 := atoms_spec (ws := Jvm.Cond.code yJ0_charAt_5068e cJ0_charAt_5068e 2 (some .char) :: ab_W) Bd.pre
  have hts : ∀ w ∈ ab_W, w.before [Value.ref a, Value.int i].toArray s = true := fun w hw => hts0 w (List.mem_cons_of_mem _ hw)
  have hown : s.vm.findClass RJ0 = some m.cls := findClass_of_methodNamed Bd.named
  have hS : va_S (fun _ => False) s.heap s.heap [] := va_S.rf
  have hl := lv_entry ([.ref a, .int i]) (n := 2) (Nat.le_of_ble_eq_true rfl)
  rw [lg_entry_eq]
  generalize (lg_sl ([.ref a, .int i]) ++ List.replicate (2 - (lg_sl ([.ref a, .int i])).length) Slot.unset).toArray = ls at hl ⊢
  have hl : lv_has ls 2 [(0, .ref a), (1, .int i)] := hl
  refine lv_aload_n hx hb dJ0_charAt_5068e_0 rfl (lv_at hl 0 rfl) ?_
  obtain ⟨cellO, o1, o2, o3, o4⟩ := hO
  refine va_calli (a := [Value.ref a].toArray) (va_runV (C := RJ0) (b := a) (As := []) (rest := []) ⟨hx, hb, hml, hown, hts⟩ (tx_is l B s.heap a) ⟨callB_of 0 hts (ab_good_code sw_cis) rfl rfl rfl (hts _ sw_nRJ0) (hts _ sw_m492) (by decide +kernel) ⟨Nat.le_of_ble_eq_true rfl, Nat.le_of_ble_eq_true rfl⟩, hts _ sw_iis, hts _ sw_sis⟩ ⟨fun a U g mk q => ⟨q.1, q.2.1, va_Z.moved (u := U) (U := U.calling g mk a) (Vm.Alike.refl U.vm) q.2.2.1, va_OF.moved (u := U) (U := U.calling g mk a) (Vm.Alike.refl U.vm) q.2.2.2⟩, ⟨cellO, o1, o2, o3⟩, fun U hU hW => ⟨rfl, hU, by rw [hU]; exact va_Z.moved hW.alike hZ, by rw [hU]; exact va_OF.moved hW.alike hC⟩⟩ rfl rfl hl.1 rfl (lv_room (Nat.le_of_ble_eq_true rfl)) dJ0_charAt_5068e_1 ⟨Nat.le_of_ble_eq_true rfl, Nat.le_of_ble_eq_true rfl⟩) hS (fun _ _ q => q) (fun _ q => q) (fun r u t H1 locs1 ht _ hr2 hB _ _ hS1 => ?_)
  have eH : H1 = s.heap := by rw [← ht]; exact hB
  subst eH
  subst hr2
  have hSA1 : va_S (ab_A B) s.heap s.heap locs1 := ⟨Nat.le_refl _, fun _ _ _ => rfl, fun z hz => absurd (hS1.2.2 z hz) id⟩
  refine lv_if_eq (tgt := 16) hx hb dJ0_charAt_5068e_4 (by decide) (fun q => absurd q (by decide)) (fun _ => ?_)
  refine lv_aload_n hx hb dJ0_charAt_5068e_7 rfl (lv_at hl 0 rfl) ?_
  refine vk_getf (ref := RJ0) hx hb hV hSA1 hown (hts _ sw_f9) (fun _ q => q) dJ0_charAt_5068e_8 ?_
  refine lv_iload_n hx hb dJ0_charAt_5068e_11 rfl (lv_at hl 1 rfl) ?_
  refine va_calli (a := [Value.ref q, Value.int i].toArray) (va_runS (As := [.ref q, .int i]) (rest := []) ⟨hx, hb, hml, hown, hts⟩ (tx_c1 l B s.heap q xs i v h0 hv hN hvL) ⟨callB_of 2 hts (ab_good_code sw_cy1) rfl rfl rfl (hts _ sw_nRJ1) (hts _ sw_m495) (by decide +kernel) ⟨Nat.le_of_ble_eq_true rfl, Nat.le_of_ble_eq_true rfl⟩, hts _ sw_ty1⟩ ⟨fun a U g mk q => ⟨q.1, q.2.1, va_Zq.moved (u := U) (U := U.calling g mk a) (Vm.Alike.refl U.vm) q.2.2.1, va_T.moved (u := U) (U := U.calling g mk a) (Vm.Alike.refl U.vm) q.2.2.2⟩, fun U hU hW => ⟨rfl, hU, by rw [hU]; exact va_Zq.moved hW.alike hF, by rw [hU]; exact va_T.moved hW.alike hT⟩⟩ rfl rfl hl.1 rfl (lv_room (Nat.le_of_ble_eq_true rfl)) dJ0_charAt_5068e_12 ⟨Nat.le_of_ble_eq_true rfl, Nat.le_of_ble_eq_true rfl⟩) hS1 (fun _ _ q => q) (fun _ q => q) (fun r u t H1 locs2 ht _ hr2 hB _ _ hS2 => ?_)
  have eH : H1 = s.heap := by rw [← ht]; exact hB
  subst eH
  subst hr2
  exact W.zret (v := r) (ty := .char) hx hb hr (tx_L1 r hvL).2 (fun t ht hW => ⟨⟨r, (), rfl, rfl, ht.trans hH⟩, hS2.F ht⟩) hS2.2.2 dJ0_charAt_5068e_15 hlocks
theorem tx_texts {j : Nat} {xs : List Int32} (h6 : 6 ≤ j) (h : ab_tx[j]? = some xs) : xs.length < 1000 ∧ ∀ v ∈ xs, v ∈ tx_L := by
  match j, h6, h with
  | 6, _, h => cases h; exact ⟨by decide, by decide⟩
  | 7, _, h => cases h; exact ⟨by decide, by decide⟩
  | 8, _, h => cases h; exact ⟨by decide, by decide⟩
  | 9, _, h => cases h; exact ⟨by decide, by decide⟩
  | j + 10, _, h => simp [ab_tx] at h
