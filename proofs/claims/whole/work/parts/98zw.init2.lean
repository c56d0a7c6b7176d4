/-! CONSTRUCTORS: the past, the class -/
section
variable {rom : List (List Int32)} {d : Nat} {hp H : ab_H} {fs : List Value} {rs : List (Option Nat)} {a b : Nat} {i : Int}
theorem rwr_new (h3 : H[b]? = some (.inr (.inl rs))) (i0 : 0 ≤ i) (i1 : i < 100) (h4 : i.toNat < rs.length) : ab_rwr (H ++ net0 H.length) b (qI i) H.length = some ((H ++ net0 H.length).set b (.inr (.inl (rs.set i.toNat (some H.length))))) := by
  have e1 : (H ++ net0 H.length)[b]? = some (.inr (.inl rs)) := by
    rw [List.getElem?_append_left (ab_lt h3)]
    exact h3
  have e2 : (H ++ net0 H.length)[H.length]? = some (.inr (.inr (1, [.int 0, .int 0, .ref (H.length + 1), .ref (H.length + 2), .ref (H.length + 3), .ref (H.length + 4)]))) := at_end
  have e3 : (qI i).toNatClampNeg = i.toNat := qI_nat (by omega) (by omega)
  unfold ab_rwr
  rw [e1, e2]
  show (if ¬ qI i < 0 ∧ (qI i).toNatClampNeg < rs.length then some ((H ++ net0 H.length).set b (.inr (.inl (rs.set (qI i).toNatClampNeg (some H.length))))) else none) = _
  rw [e3, if_pos ⟨qI_ge i0 (by omega), h4⟩]
theorem q_s (i : Int) : qI i + 1 = qI (i + 1) := qI_add i 1
theorem sX4_init_48_3 {K : Nat → List Value → ab_H → Option ab_O} {ls : List Value} {v0 v1 v2 : Value} (ho : ab_iso hp a 1 = true) : ab_X rom K cX4_init 2 3 48 ls [.ref a, v0, v1, v2] hp = (K 11 (.ref a :: []) hp).bind (fun o => ab_X rom K cX4_init 2 3 51 ls (o.1.toList ++ [v0, v1, v2]) o.2) := ax_init (as := []) (st := [v0, v1, v2]) dX4_init_48 kc_2_28 (by decide) rfl rfl (Nat.le_of_ble_eq_true rfl) ho
theorem sX8_init_50_3 {K : Nat → List Value → ab_H → Option ab_O} {ls : List Value} {v0 v1 v2 : Value} (ho : ab_iso hp a 1 = true) : ab_X rom K cX8_init 6 3 50 ls [.ref a, v0, v1, v2] hp = (K 11 (.ref a :: []) hp).bind (fun o => ab_X rom K cX8_init 6 3 53 ls (o.1.toList ++ [v0, v1, v2]) o.2) := ax_init (as := []) (st := [v0, v1, v2]) dX8_init_50 kc_6_25 (by decide) rfl rfl (Nat.le_of_ble_eq_true rfl) ho
theorem past_it (h1 : H[a]? = some (.inr (.inr (2, fs)))) (h2 : fs[2]? = some (.ref b)) (h3 : H[b]? = some (.inr (.inl rs))) (i0 : 0 ≤ i) (i1 : i < 10) (h4 : i.toNat < rs.length) (hl : H.length + 20 < ab_RO) : ab_X rom (ab_M rom (d + 1)) cX4_init 2 3 33 [.ref a, .int (qI i)] [] H = ab_X rom (ab_M rom (d + 1)) cX4_init 2 3 33 [.ref a, .int (qI (i + 1))] [] ((H ++ net0 H.length).set b (.inr (.inl (rs.set i.toNat (some H.length))))) := by
  have q1 : ab_fld H a 2 2 = some (.ref b) := (ab_fld_at h1).trans h2
  have q2 := i_net (rom := rom) (d := d) (hp := H) hl
  have q3 : ab_iso (H ++ [.inr (.inr (1, [.int 0, .int 0, .null, .null, .null, .null]))]) H.length 1 = true := iso_end
  have q4 := rwr_new h3 i0 (by omega) h4
  have hlt : (qI i < (10 : Int32)) = True := eq_true ((qI_lt (b := 10) (by omega) (by omega) (by omega) (by omega)).mpr i1)
  have hL : H.length < ab_RO := by omega
  rw [sX4_init_33]
  simp (disch := (first | assumption | decide)) only [sX4_init_0, sX4_init_1_0, sX4_init_1_1, sX4_init_1_2, sX4_init_1_3, sX4_init_4, sX4_init_5, sX4_init_6, sX4_init_9, sX4_init_10, sX4_init_11, sX4_init_14, sX4_init_15, sX4_init_17, sX4_init_20, sX4_init_23, sX4_init_24, sX4_init_26, sX4_init_28, sX4_init_31, sX4_init_32i, sX4_init_32r, sX4_init_32n, sX4_init_34, sX4_init_36, sX4_init_39, sX4_init_40, sX4_init_43, sX4_init_44, sX4_init_47i, sX4_init_47r, sX4_init_48_0, sX4_init_48_1, sX4_init_48_2, sX4_init_51, sX4_init_52i, sX4_init_52r, sX4_init_52n, sX4_init_55, sX4_init_58, sX4_init_48_3, hlt, if_true, q1, Option.bind_some, q2, Option.toList_none, List.nil_append, q4, q_s]
theorem past_end : ab_X rom (ab_M rom (d + 1)) cX4_init 2 3 33 [.ref a, .int (qI 10)] [] H = some (none, H) := by
  have hlt : (qI 10 < (10 : Int32)) = False := by decide
  rw [sX4_init_33]
  simp only [sX4_init_34, sX4_init_36, sX4_init_58, hlt, if_false]
def rf (M n : Nat) : Nat → List (Option Nat)
  | 0 => List.replicate n none
  | t + 1 => (rf M n t).set t (some (M + 5 * t))
def nts (M : Nat) : Nat → ab_H
  | 0 => []
  | t + 1 => nts M t ++ net0 (M + 5 * t)
theorem rf_len (M n : Nat) : ∀ t, (rf M n t).length = n
  | 0 => List.length_replicate
  | t + 1 => by
    show ((rf M n t).set t (some (M + 5 * t))).length = n
    rw [List.length_set]
    exact rf_len M n t
theorem nts_len (M : Nat) : ∀ t, (nts M t).length = 5 * t
  | 0 => rfl
  | t + 1 => by
    show (nts M t ++ net0 (M + 5 * t)).length = _
    rw [List.length_append, nts_len M t]
    show 5 * t + 5 = _
    omega
def pob (L : Nat) : ab_C := .inr (.inr (2, [.int 0, .int 0, .ref (L + 1), .ref (L + 2)]))
def pH (hp : ab_H) (t : Nat) : ab_H := hp ++ pob hp.length :: .inr (.inl (rf (hp.length + 3) 10 t)) :: row0 10 :: nts (hp.length + 3) t
theorem pH_len (hp : ab_H) (t : Nat) : (pH hp t).length = hp.length + 3 + 5 * t := by
  unfold pH
  rw [List.length_append]
  show hp.length + ((nts (hp.length + 3) t).length + 1 + 1 + 1) = _
  rw [nts_len]
  omega
theorem set_end1 {x y z : ab_C} {rest : ab_H} : (hp ++ x :: y :: rest).set (hp.length + 1) z = hp ++ x :: z :: rest := by
  rw [List.set_append_right _ _ (by omega), show hp.length + 1 - hp.length = 1 by omega]
  rfl
theorem at_end1 {x y : ab_C} {rest : ab_H} : (hp ++ x :: y :: rest)[hp.length + 1]? = some y := by
  rw [List.getElem?_append_right (by omega), show hp.length + 1 - hp.length = 1 by omega]
  rfl
theorem pH_s (hp : ab_H) (t : Nat) : ((pH hp t) ++ net0 (pH hp t).length).set (hp.length + 1) (.inr (.inl ((rf (hp.length + 3) 10 t).set t (some (pH hp t).length)))) = pH hp (t + 1) := by
  rw [pH_len]
  unfold pH
  rw [List.append_assoc]
  show (hp ++ pob hp.length :: .inr (.inl (rf (hp.length + 3) 10 t)) :: (row0 10 :: nts (hp.length + 3) t ++ net0 (hp.length + 3 + 5 * t))).set (hp.length + 1) _ = _
  rw [set_end1]
  rfl
def past0 (L : Nat) : ab_H := pob L :: .inr (.inl (rf (L + 3) 10 10)) :: row0 10 :: nts (L + 3) 10
theorem i_past (hl : hp.length + 100 < ab_RO) : ab_M rom (d + 2) 35 [.ref hp.length] (hp ++ [.inr (.inr (2, [.int 0, .int 0, .null, .null]))]) = some (none, hp ++ past0 hp.length) := by
  have beg : ab_M rom (d + 2) 35 [.ref hp.length] (hp ++ [.inr (.inr (2, [.int 0, .int 0, .null, .null]))]) = ab_X rom (ab_M rom (d + 1)) cX4_init 2 3 33 [.ref hp.length, .int (qI 0)] [] (pH hp 0) := by
    rw [mX4_init]
    simp (disch := (first | assumption | exact Nat.le_of_ble_eq_true rfl | decide | ((try simp only [List.length_append, List.length_cons, List.length_nil, List.length_set]); omega))) only [sX4_init_0, sX4_init_1_0, sX4_init_1_1, sX4_init_1_2, sX4_init_1_3, sX4_init_4, sX4_init_5, sX4_init_6, sX4_init_9, sX4_init_10, sX4_init_11, sX4_init_14, sX4_init_15, sX4_init_17, sX4_init_20, sX4_init_23, sX4_init_24, sX4_init_26, sX4_init_28, sX4_init_31, sX4_init_32i, sX4_init_32r, sX4_init_32n, sX4_init_34, sX4_init_36, sX4_init_39, sX4_init_40, sX4_init_43, sX4_init_44, sX4_init_47i, sX4_init_47r, sX4_init_48_0, sX4_init_48_1, sX4_init_48_2, sX4_init_51, sX4_init_52i, sX4_init_52r, sX4_init_52n, sX4_init_55, sX4_init_58, if_na, tc_10, List.append_assoc, List.cons_append, List.nil_append, fpt_end, Option.bind_some]
    simp only [List.length_append, List.length_cons, List.length_nil]
    rfl
  have loop : ∀ t : Nat, t ≤ 10 → ab_X rom (ab_M rom (d + 1)) cX4_init 2 3 33 [.ref hp.length, .int (qI 0)] [] (pH hp 0) = ab_X rom (ab_M rom (d + 1)) cX4_init 2 3 33 [.ref hp.length, .int (qI (t : Int))] [] (pH hp t) := by
    intro t
    induction t with
    | zero => exact fun _ => rfl
    | succ t ih =>
      intro ht
      refine (ih (by omega)).trans ?_
      have := past_it (rom := rom) (d := d) (H := pH hp t) (a := hp.length) (b := hp.length + 1) (i := (t : Int)) (fs := [.int 0, .int 0, .ref (hp.length + 1), .ref (hp.length + 2)]) (rs := rf (hp.length + 3) 10 t) at_end rfl at_end1 (by omega) (by omega) (by rw [rf_len]; omega) (by rw [pH_len]; omega)
      rw [Int.toNat_natCast, pH_s] at this
      exact this
  exact (beg.trans (loop 10 (Nat.le_refl _))).trans past_end
/-! the class's own -/
def fob (fs : List Value) : ab_C := .inr (.inr (6, fs))
theorem fpt_0 {R : ab_H} {k : Nat} {v : Value} (h : k < fs.length) : ab_fpt (fob fs :: R) 0 6 k v = some (fob (fs.set k v) :: R) := fpt_end (hp := []) h
theorem fld_0 {R : ab_H} {k : Nat} : ab_fld (fob fs :: R) 0 6 k = fs[k]? := ab_fld_at (hp := fob fs :: R) rfl
theorem slot_it (h1 : H[a]? = some (.inr (.inr (6, fs)))) (h2 : fs[3]? = some (.ref b)) (h3 : H[b]? = some (.inr (.inl rs))) (i0 : 0 ≤ i) (i1 : i < 3) (h4 : i.toNat < rs.length) (hl : H.length + 20 < ab_RO) : ab_X rom (ab_M rom (d + 1)) cX8_init 6 3 36 [.ref a, .int (qI i)] [] H = ab_X rom (ab_M rom (d + 1)) cX8_init 6 3 36 [.ref a, .int (qI (i + 1))] [] ((H ++ net0 H.length).set b (.inr (.inl (rs.set i.toNat (some H.length))))) := by
  have q1 : ab_fld H a 6 3 = some (.ref b) := (ab_fld_at h1).trans h2
  have q2 := i_net (rom := rom) (d := d) (hp := H) hl
  have q3 : ab_iso (H ++ [.inr (.inr (1, [.int 0, .int 0, .null, .null, .null, .null]))]) H.length 1 = true := iso_end
  have q4 := rwr_new h3 i0 (by omega) h4
  have hlt : (qI i < (3 : Int32)) = True := eq_true ((qI_lt (b := 3) (by omega) (by omega) (by omega) (by omega)).mpr i1)
  have hL : H.length < ab_RO := by omega
  rw [sX8_init_36]
  simp (disch := (first | assumption | decide)) only [sX8_init_37, sX8_init_38, sX8_init_41, sX8_init_42, sX8_init_45, sX8_init_46, sX8_init_49i, sX8_init_49r, sX8_init_50_0, sX8_init_50_1, sX8_init_50_2, sX8_init_53, sX8_init_54i, sX8_init_54r, sX8_init_54n, sX8_init_57, sX8_init_50_3, hlt, if_true, q1, Option.bind_some, q2, Option.toList_none, List.nil_append, q4, q_s]
end
section
variable {rom : List (List Int32)} {d : Nat} {R : ab_H} {fs : List Value} {w : Value} {t n : Nat}
theorem f_s1 (hf : fs.length = 11) (hl : R.length + 50 < ab_RO) : ab_X rom (ab_M rom (d + 3)) cX8_init 6 3 4 [.ref 0, w] [] (fob fs :: R) = ab_X rom (ab_M rom (d + 3)) cX8_init 6 3 15 [.ref 0, w] [] (fob (fs.set 0 (.ref (R.length + 1))) :: (R ++ tape0 (R.length + 1))) := by
  have q := i_tape (rom := rom) (d := d + 2) (hp := fob fs :: R) (by rw [List.length_cons]; omega)
  have hi := iso_end (hp := fob fs :: R) (rest := []) (ci := 5) (fs := [.null, .int 0])
  simp only [List.cons_append, List.length_cons] at q hi
  simp (disch := (first | assumption | (simp only [List.length_cons]; omega) | omega)) only [sX8_init_4, sX8_init_5, sX8_init_8i, sX8_init_8r, sX8_init_9_0, sX8_init_9_1, sX8_init_9_2, sX8_init_12, List.cons_append, List.length_cons, q, Option.bind_some, Option.toList_none, List.nil_append, fpt_0]
theorem f_s2 (hf : fs.length = 11) (hl : R.length + 50 < ab_RO) : ab_X rom (ab_M rom (d + 3)) cX8_init 6 3 15 [.ref 0, w] [] (fob fs :: R) = ab_X rom (ab_M rom (d + 3)) cX8_init 6 3 26 [.ref 0, w] [] (fob (fs.set 2 (.ref (R.length + 1))) :: (R ++ tape0 (R.length + 1))) := by
  have q := i_tape (rom := rom) (d := d + 2) (hp := fob fs :: R) (by rw [List.length_cons]; omega)
  have hi := iso_end (hp := fob fs :: R) (rest := []) (ci := 5) (fs := [.null, .int 0])
  simp only [List.cons_append, List.length_cons] at q hi
  simp (disch := (first | assumption | (simp only [List.length_cons]; omega) | omega)) only [sX8_init_15, sX8_init_16, sX8_init_19i, sX8_init_19r, sX8_init_20_0, sX8_init_20_1, sX8_init_20_2, sX8_init_23, List.cons_append, List.length_cons, q, Option.bind_some, Option.toList_none, List.nil_append, fpt_0]
theorem f_s3 (hf : fs.length = 11) (hl : R.length + 50 < ab_RO) : ab_X rom (ab_M rom (d + 3)) cX8_init 6 3 26 [.ref 0, w] [] (fob fs :: R) = ab_X rom (ab_M rom (d + 3)) cX8_init 6 3 36 [.ref 0, .int (qI 0)] [] (fob (fs.set 3 (.ref (R.length + 1))) :: (R ++ [.inr (.inl [none, none, none])])) := by
  simp (disch := (first | assumption | decide | (simp only [List.length_cons]; omega) | omega)) only [sX8_init_26, sX8_init_27, sX8_init_28, sX8_init_31, sX8_init_34, sX8_init_35i, sX8_init_35r, sX8_init_35n, List.cons_append, List.length_cons, tc_3, Option.bind_some, List.nil_append, fpt_0]
  rfl
theorem f_s5 (hf : fs.length = 11) (hl : R.length + 50 < ab_RO) : ab_X rom (ab_M rom (d + 3)) cX8_init 6 3 36 [.ref 0, .int (qI 3)] [] (fob fs :: R) = ab_X rom (ab_M rom (d + 3)) cX8_init 6 3 71 [.ref 0, .int (qI 3)] [] (fob (fs.set 4 (.ref (R.length + 1))) :: (R ++ net0 (R.length + 1))) := by
  have q := i_net (rom := rom) (d := d + 2) (hp := fob fs :: R) (by rw [List.length_cons]; omega)
  have hi := iso_end (hp := fob fs :: R) (rest := []) (ci := 1) (fs := [.int 0, .int 0, .null, .null, .null, .null])
  have hlt : (qI 3 < (3 : Int32)) = False := by decide
  simp only [List.cons_append, List.length_cons] at q hi
  rw [sX8_init_36]
  simp (disch := (first | assumption | (simp only [List.length_cons]; omega) | omega)) only [sX8_init_37, sX8_init_38, sX8_init_60, sX8_init_61, sX8_init_64i, sX8_init_64r, sX8_init_65_0, sX8_init_65_1, sX8_init_65_2, sX8_init_68, hlt, if_false, List.cons_append, List.length_cons, q, Option.bind_some, Option.toList_none, List.nil_append, fpt_0]
theorem f_s6 (hf : fs.length = 11) (h0 : fs[0]? = some (.ref t)) (h4 : fs[4]? = some (.ref n)) (hl : R.length + 50 < ab_RO) : ab_X rom (ab_M rom (d + 3)) cX8_init 6 3 71 [.ref 0, w] [] (fob fs :: R) = ab_X rom (ab_M rom (d + 3)) cX8_init 6 3 90 [.ref 0, w] [] (fob (fs.set 1 (.ref (R.length + 1))) :: (R ++ read0 t n)) := by
  have q := i_reader (rom := rom) (d := d + 2) (hp := fob fs :: R) (t := t) (n := n)
  have hi := iso_end (hp := fob fs :: R) (rest := []) (ci := 3) (fs := [.int 0, .int 0, .null, .null, .int 0, .int 0, .int 0, .int 0])
  simp only [List.cons_append, List.length_cons] at q hi
  simp (disch := (first | assumption | (simp only [List.length_cons]; omega) | omega)) only [sX8_init_71, sX8_init_72, sX8_init_75i, sX8_init_75r, sX8_init_76, sX8_init_77, sX8_init_80, sX8_init_81, sX8_init_84_0, sX8_init_84_1, sX8_init_84_2, sX8_init_87, List.cons_append, List.length_cons, fld_0, h0, h4, q, Option.bind_some, Option.toList_none, List.nil_append, fpt_0]
theorem f_s7 (hf : fs.length = 11) (hl : R.length + 150 < ab_RO) : ab_X rom (ab_M rom (d + 3)) cX8_init 6 3 90 [.ref 0, w] [] (fob fs :: R) = ab_X rom (ab_M rom (d + 3)) cX8_init 6 3 101 [.ref 0, w] [] (fob (fs.set 5 (.ref (R.length + 1))) :: (R ++ past0 (R.length + 1))) := by
  have q := i_past (rom := rom) (d := d + 1) (hp := fob fs :: R) (by rw [List.length_cons]; omega)
  have hi := iso_end (hp := fob fs :: R) (rest := []) (ci := 2) (fs := [.int 0, .int 0, .null, .null])
  simp only [List.cons_append, List.length_cons] at q hi
  simp (disch := (first | assumption | (simp only [List.length_cons]; omega) | omega)) only [sX8_init_90, sX8_init_91, sX8_init_94i, sX8_init_94r, sX8_init_95_0, sX8_init_95_1, sX8_init_95_2, sX8_init_98, List.cons_append, List.length_cons, q, Option.bind_some, Option.toList_none, List.nil_append, fpt_0]
theorem f_s8 (hf : fs.length = 11) (h4 : fs[4]? = some (.ref n)) (hl : R.length + 150 < ab_RO) : ab_X rom (ab_M rom (d + 3)) cX8_init 6 3 101 [.ref 0, w] [] (fob fs :: R) = ab_X rom (ab_M rom (d + 3)) cX8_init 6 3 116 [.ref 0, w] [] (fob (fs.set 6 (.ref (R.length + 1))) :: (R ++ sear0 (R.length + 1) n)) := by
  have q := i_search (rom := rom) (d := d + 1) (hp := fob fs :: R) (n := n) (by rw [List.length_cons]; omega)
  have hi := iso_end (hp := fob fs :: R) (rest := []) (ci := 4) (fs := [.null, .null, .null, .null, .null, .null, .int 0, .int 0, .int 0, .int 0, .int 0, .int 0, .int 0, .int 0, .int 0])
  simp only [List.cons_append, List.length_cons] at q hi
  simp (disch := (first | assumption | (simp only [List.length_cons]; omega) | omega)) only [sX8_init_101, sX8_init_102, sX8_init_105i, sX8_init_105r, sX8_init_106, sX8_init_107, sX8_init_110_0, sX8_init_110_1, sX8_init_110_2, sX8_init_113, List.cons_append, List.length_cons, fld_0, h4, q, Option.bind_some, Option.toList_none, List.nil_append, fpt_0]
theorem f_s9 (hf : fs.length = 11) (hl : R.length + 50 < ab_RO) : ab_X rom (ab_M rom (d + 3)) cX8_init 6 3 116 [.ref 0, w] [] (fob fs :: R) = ab_X rom (ab_M rom (d + 3)) cX8_init 6 3 124 [.ref 0, w] [] (fob (fs.set 7 (.ref (R.length + 1))) :: (R ++ [row0 12])) := by
  simp (disch := (first | assumption | decide | (simp only [List.length_cons]; omega) | omega)) only [sX8_init_116, sX8_init_117, sX8_init_119, sX8_init_121, if_na, tc_12, List.cons_append, List.length_cons, Option.bind_some, List.nil_append, fpt_0]
  rfl
theorem f_s10 (hf : fs.length = 11) (hl : R.length + 50 < ab_RO) : ab_X rom (ab_M rom (d + 3)) cX8_init 6 3 124 [.ref 0, w] [] (fob fs :: R) = ab_X rom (ab_M rom (d + 3)) cX8_init 6 3 132 [.ref 0, w] [] (fob (fs.set 8 (.ref (R.length + 1))) :: (R ++ [row0 66])) := by
  simp (disch := (first | assumption | decide | (simp only [List.length_cons]; omega) | omega)) only [sX8_init_124, sX8_init_125, sX8_init_127, sX8_init_129, if_na, tc_66, List.cons_append, List.length_cons, Option.bind_some, List.nil_append, fpt_0]
  rfl
theorem f_s11 (hf : fs.length = 11) : ab_X rom (ab_M rom (d + 3)) cX8_init 6 3 132 [.ref 0, w] [] (fob fs :: R) = some (none, fob ((fs.set 9 (.int 0)).set 10 (.int (-1))) :: R) := by
  simp (disch := (first | (simp only [List.length_set]; omega) | omega)) only [sX8_init_132, sX8_init_133, sX8_init_134, sX8_init_137, sX8_init_138, sX8_init_139, sX8_init_142, Option.bind_some, fpt_0]
end
