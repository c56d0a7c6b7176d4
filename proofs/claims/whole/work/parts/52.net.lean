/-! A NET of the class at place k: its object and four rows -/
def NetAt (hp : ab_H) (k n m : Nat) (lo hi lab bes : List Int32) : Prop :=
  hp[k]? = some (.inr (.inr (1, [.int (nI n), .int (nI m), .ref (k + 1), .ref (k + 2), .ref (k + 3), .ref (k + 4)]))) ∧ hp[k + 1]? = some (.inl (0, lo)) ∧ hp[k + 2]? = some (.inl (0, hi)) ∧ hp[k + 3]? = some (.inl (0, lab)) ∧ hp[k + 4]? = some (.inl (0, bes)) ∧ lo.length = 10 ∧ hi.length = 10 ∧ lab.length = 7 ∧ bes.length = 7
theorem ab_ard_n {rom : List (List Int32)} {hp : ab_H} {t a i : Nat} {xs : List Int32} (h : hp[a]? = some (.inl (t, xs))) (hi : i < xs.length) (hl : xs.length ≤ 1000) : ab_ard rom t hp a (nI i) = some (xs.getD i 0) := by
  rw [← qI_nI, ab_ard_at h (by omega) (by omega), List.getD_eq_getElem?_getD, Int.toNat_natCast, List.getElem?_eq_getElem hi]
  rfl
theorem ab_awr_n {hp : ab_H} {t a i : Nat} {xs : List Int32} {y : Int32} (h : hp[a]? = some (.inl (t, xs))) (hi : i < xs.length) (hl : xs.length ≤ 1000) : ab_awr t hp a (nI i) y = some (hp.set a (.inl (t, xs.set i y))) := by
  rw [← qI_nI, ab_awr_at h (by omega) (by rw [Int.toNat_natCast]; exact hi) (by omega), Int.toNat_natCast]
section
variable {rom : List (List Int32)} {hp : ab_H} {d k n m : Nat} {lo hi lab bes : List Int32}
theorem NetAt.iso (h : NetAt hp k n m lo hi lab bes) : ab_iso hp k 1 = true := ab_iso_at h.1
theorem NetAt.f0 (h : NetAt hp k n m lo hi lab bes) : ab_fld hp k 1 0 = some (.int (nI n)) := by rw [ab_fld_at h.1]; rfl
theorem NetAt.f1 (h : NetAt hp k n m lo hi lab bes) : ab_fld hp k 1 1 = some (.int (nI m)) := by rw [ab_fld_at h.1]; rfl
theorem NetAt.f2 (h : NetAt hp k n m lo hi lab bes) : ab_fld hp k 1 2 = some (.ref (k + 1)) := by rw [ab_fld_at h.1]; rfl
theorem NetAt.f3 (h : NetAt hp k n m lo hi lab bes) : ab_fld hp k 1 3 = some (.ref (k + 2)) := by rw [ab_fld_at h.1]; rfl
theorem NetAt.f4 (h : NetAt hp k n m lo hi lab bes) : ab_fld hp k 1 4 = some (.ref (k + 3)) := by rw [ab_fld_at h.1]; rfl
theorem NetAt.f5 (h : NetAt hp k n m lo hi lab bes) : ab_fld hp k 1 5 = some (.ref (k + 4)) := by rw [ab_fld_at h.1]; rfl
theorem NetAt.rlo (h : NetAt hp k n m lo hi lab bes) {i : Nat} (h9 : i < 10) : ab_ard rom 0 hp (k + 1) (nI i) = some (lo.getD i 0) := by
  obtain ⟨h0, h1, h2, h3, h4, l1, l2, l3, l4⟩ := h
  exact ab_ard_n h1 (by omega) (by omega)
theorem NetAt.rhi (h : NetAt hp k n m lo hi lab bes) {i : Nat} (h9 : i < 10) : ab_ard rom 0 hp (k + 2) (nI i) = some (hi.getD i 0) := by
  obtain ⟨h0, h1, h2, h3, h4, l1, l2, l3, l4⟩ := h
  exact ab_ard_n h2 (by omega) (by omega)
theorem NetAt.rlab (h : NetAt hp k n m lo hi lab bes) {i : Nat} (h9 : i < 7) : ab_ard rom 0 hp (k + 3) (nI i) = some (lab.getD i 0) := by
  obtain ⟨h0, h1, h2, h3, h4, l1, l2, l3, l4⟩ := h
  exact ab_ard_n h3 (by omega) (by omega)
theorem NetAt.rbes (h : NetAt hp k n m lo hi lab bes) {i : Nat} (h9 : i < 7) : ab_ard rom 0 hp (k + 4) (nI i) = some (bes.getD i 0) := by
  obtain ⟨h0, h1, h2, h3, h4, l1, l2, l3, l4⟩ := h
  exact ab_ard_n h4 (by omega) (by omega)
/-- Net.lineHasLabels -/
theorem c_lineHasLabels (h : NetAt hp k n m lo hi lab bes) {i a b : Nat} (h9 : i < 10) (ha : lo.getD i 0 = nI a) (hb : hi.getD i 0 = nI b) (ha7 : a < 7) (hb7 : b < 7) : ab_M rom (d + 1) 26 [.ref k, .int (nI i)] hp = some (some (.int (qB (!decide (lab.getD a 0 = -1) && !decide (lab.getD b 0 = -1)))), hp) := by
  rw [mX3_lineHasLabels]
  simp only [sX3_lineHasLabels_0, sX3_lineHasLabels_1, sX3_lineHasLabels_4, sX3_lineHasLabels_5, sX3_lineHasLabels_8, sX3_lineHasLabels_9, sX3_lineHasLabels_10, sX3_lineHasLabels_11, sX3_lineHasLabels_12, sX3_lineHasLabels_15, sX3_lineHasLabels_16, sX3_lineHasLabels_19, sX3_lineHasLabels_20, sX3_lineHasLabels_23, sX3_lineHasLabels_24, sX3_lineHasLabels_25, sX3_lineHasLabels_26, sX3_lineHasLabels_27, sX3_lineHasLabels_30, sX3_lineHasLabels_31, sX3_lineHasLabels_34, sX3_lineHasLabels_35, h.f4, h.f2, h.f3, Option.bind_some, Option.toList_some, Option.toList_none, List.cons_append, List.nil_append, h.rlo h9, h.rhi h9, ha, hb, h.rlab ha7, h.rlab hb7, true_or, or_true, if_true]
  generalize lab.getD a 0 = u
  generalize lab.getD b 0 = v
  by_cases h1 : u = -1
  · simp [h1, qB]
  · by_cases h2 : v = -1
    · simp [h1, h2, qB]
    · simp [h1, h2, qB]
/-- Net.differenceOf -/
theorem c_differenceOf (h : NetAt hp k n m lo hi lab bes) {i a b : Nat} (h9 : i < 10) (ha : lo.getD i 0 = nI a) (hb : hi.getD i 0 = nI b) (ha7 : a < 7) (hb7 : b < 7) : ab_M rom (d + 1) 18 [.ref k, .int (nI i)] hp = some (some (.int (ab_abs (lab.getD a 0 - lab.getD b 0))), hp) := by
  rw [mX3_differenceOf]
  simp only [sX3_differenceOf_0, sX3_differenceOf_1, sX3_differenceOf_4, sX3_differenceOf_5, sX3_differenceOf_8, sX3_differenceOf_9, sX3_differenceOf_10, sX3_differenceOf_11, sX3_differenceOf_12, sX3_differenceOf_15, sX3_differenceOf_16, sX3_differenceOf_19, sX3_differenceOf_20, sX3_differenceOf_21, sX3_differenceOf_22, sX3_differenceOf_23_0, sX3_differenceOf_23_1, sX3_differenceOf_23_2, sX3_differenceOf_23_3, sX3_differenceOf_26, h.f4, h.f2, h.f3, Option.bind_some, Option.toList_some, Option.toList_none, List.cons_append, List.nil_append, h.rlo h9, h.rhi h9, ha, hb, h.rlab ha7, h.rlab hb7]
/-- Net.sumOf -/
theorem c_sumOf (h : NetAt hp k n m lo hi lab bes) {i a b : Nat} (h9 : i < 10) (ha : lo.getD i 0 = nI a) (hb : hi.getD i 0 = nI b) (ha7 : a < 7) (hb7 : b < 7) : ab_M rom (d + 1) 32 [.ref k, .int (nI i)] hp = some (some (.int (lab.getD a 0 + lab.getD b 0)), hp) := by
  rw [mX3_sumOf]
  simp only [sX3_sumOf_0, sX3_sumOf_1, sX3_sumOf_4, sX3_sumOf_5, sX3_sumOf_8, sX3_sumOf_9, sX3_sumOf_10, sX3_sumOf_11, sX3_sumOf_12, sX3_sumOf_15, sX3_sumOf_16, sX3_sumOf_19, sX3_sumOf_20, sX3_sumOf_21, sX3_sumOf_22, sX3_sumOf_23, h.f4, h.f2, h.f3, Option.bind_some, Option.toList_some, Option.toList_none, List.cons_append, List.nil_append, h.rlo h9, h.rhi h9, ha, hb, h.rlab ha7, h.rlab hb7]
/-- the set of the first i points that have a label -/
def q_set (lab : List Int32) : Nat → Int32
  | 0 => 0
  | i + 1 => if lab.getD i 0 = -1 then q_set lab i else q_set lab i ||| ((1 : Int32) <<< (nI i &&& 31))
/-- Net.labelled -/
theorem c_labelled (h : NetAt hp k n m lo hi lab bes) (hn : n ≤ 7) : ab_M rom (d + 1) 25 [.ref k] hp = some (some (.int (q_set lab n)), hp) := by
  rw [mX3_labelled]
  simp only [sX3_labelled_0, sX3_labelled_1i, sX3_labelled_1r, sX3_labelled_1n, sX3_labelled_2, sX3_labelled_3i, sX3_labelled_3r, sX3_labelled_3n, sX3_labelled_5, sX3_labelled_6, sX3_labelled_9, sX3_labelled_12, sX3_labelled_13, sX3_labelled_16, sX3_labelled_17, sX3_labelled_18, sX3_labelled_19, sX3_labelled_22, sX3_labelled_23, sX3_labelled_24, sX3_labelled_25, sX3_labelled_26, sX3_labelled_27i, sX3_labelled_27r, sX3_labelled_27n, sX3_labelled_28i, sX3_labelled_28r, sX3_labelled_28n, sX3_labelled_31, sX3_labelled_34, sX3_labelled_35]
  have key := q_loop (fun i (acc : Int32) => acc = q_set lab i) (fun i acc => ab_X rom (ab_M rom d) cX3_labelled 1 1 4 [.ref k, .int acc, .int (nI i)] [] hp) (fun i _ => q_set lab (i + 1)) n (fun i acc hi9 ha => by
    refine ⟨rfl, ?_⟩
    subst ha
    rw [sX3_labelled_4]
    simp only [sX3_labelled_0, sX3_labelled_1i, sX3_labelled_1r, sX3_labelled_1n, sX3_labelled_2, sX3_labelled_3i, sX3_labelled_3r, sX3_labelled_3n, sX3_labelled_5, sX3_labelled_6, sX3_labelled_9, sX3_labelled_12, sX3_labelled_13, sX3_labelled_16, sX3_labelled_17, sX3_labelled_18, sX3_labelled_19, sX3_labelled_22, sX3_labelled_23, sX3_labelled_24, sX3_labelled_25, sX3_labelled_26, sX3_labelled_27i, sX3_labelled_27r, sX3_labelled_27n, sX3_labelled_28i, sX3_labelled_28r, sX3_labelled_28n, sX3_labelled_31, sX3_labelled_34, sX3_labelled_35, h.f0, h.f4, Option.bind_some, Option.toList_some, Option.toList_none, List.cons_append, List.nil_append, h.rlab (show i < 7 by omega)]
    rw [if_pos (nI_lt hi9 (by omega))]
    simp only [nI_1, q_set]
    split <;> rfl) n 0 0 (by omega) rfl
  refine key.2.trans ?_
  rw [key.1]
  simp only [sX3_labelled_4, sX3_labelled_5, sX3_labelled_6, sX3_labelled_9, sX3_labelled_34, sX3_labelled_35, h.f0, Option.bind_some, Option.toList_some, Option.toList_none, List.cons_append, List.nil_append]
  rw [if_neg (nI_nlt (Nat.le_refl n) (by omega))]
/-- Net.sumOfLabels -/
def q_sum (lab : List Int32) : Nat → Int32
  | 0 => 0
  | i + 1 => q_sum lab i + lab.getD i 0
theorem c_sumOfLabels (h : NetAt hp k n m lo hi lab bes) (hn : n ≤ 7) : ab_M rom (d + 1) 34 [.ref k] hp = some (some (.int (q_sum lab n)), hp) := by
  rw [mX3_sumOfLabels]
  simp only [sX3_sumOfLabels_0, sX3_sumOfLabels_1i, sX3_sumOfLabels_1r, sX3_sumOfLabels_1n, sX3_sumOfLabels_2, sX3_sumOfLabels_3i, sX3_sumOfLabels_3r, sX3_sumOfLabels_3n, sX3_sumOfLabels_5, sX3_sumOfLabels_6, sX3_sumOfLabels_9, sX3_sumOfLabels_12, sX3_sumOfLabels_13, sX3_sumOfLabels_14, sX3_sumOfLabels_17, sX3_sumOfLabels_18, sX3_sumOfLabels_19, sX3_sumOfLabels_20i, sX3_sumOfLabels_20r, sX3_sumOfLabels_20n, sX3_sumOfLabels_21i, sX3_sumOfLabels_21r, sX3_sumOfLabels_21n, sX3_sumOfLabels_24, sX3_sumOfLabels_27, sX3_sumOfLabels_28]
  have key := q_loop (fun i (acc : Int32) => acc = q_sum lab i) (fun i acc => ab_X rom (ab_M rom d) cX3_sumOfLabels 1 1 4 [.ref k, .int acc, .int (nI i)] [] hp) (fun i _ => q_sum lab (i + 1)) n (fun i acc hi9 ha => by
    refine ⟨rfl, ?_⟩
    subst ha
    rw [sX3_sumOfLabels_4]
    simp only [sX3_sumOfLabels_0, sX3_sumOfLabels_1i, sX3_sumOfLabels_1r, sX3_sumOfLabels_1n, sX3_sumOfLabels_2, sX3_sumOfLabels_3i, sX3_sumOfLabels_3r, sX3_sumOfLabels_3n, sX3_sumOfLabels_5, sX3_sumOfLabels_6, sX3_sumOfLabels_9, sX3_sumOfLabels_12, sX3_sumOfLabels_13, sX3_sumOfLabels_14, sX3_sumOfLabels_17, sX3_sumOfLabels_18, sX3_sumOfLabels_19, sX3_sumOfLabels_20i, sX3_sumOfLabels_20r, sX3_sumOfLabels_20n, sX3_sumOfLabels_21i, sX3_sumOfLabels_21r, sX3_sumOfLabels_21n, sX3_sumOfLabels_24, sX3_sumOfLabels_27, sX3_sumOfLabels_28, h.f0, h.f4, Option.bind_some, Option.toList_some, Option.toList_none, List.cons_append, List.nil_append, h.rlab (show i < 7 by omega)]
    rw [if_pos (nI_lt hi9 (by omega))]
    simp only [nI_1, q_sum]) n 0 0 (by omega) rfl
  refine key.2.trans ?_
  rw [key.1]
  simp only [sX3_sumOfLabels_4, sX3_sumOfLabels_5, sX3_sumOfLabels_6, sX3_sumOfLabels_9, sX3_sumOfLabels_27, sX3_sumOfLabels_28, h.f0, Option.bind_some, Option.toList_some, Option.toList_none, List.cons_append, List.nil_append]
  rw [if_neg (nI_nlt (Nat.le_refl n) (by omega))]
/-- Net.greatestLabel -/
def q_great (lab : List Int32) : Nat → Int32
  | 0 => -1
  | i + 1 => ab_max (q_great lab i) (lab.getD i 0)
theorem c_greatestLabel (h : NetAt hp k n m lo hi lab bes) (hn : n ≤ 7) : ab_M rom (d + 1) 21 [.ref k] hp = some (some (.int (q_great lab n)), hp) := by
  rw [mX3_greatestLabel]
  simp only [sX3_greatestLabel_0, sX3_greatestLabel_1i, sX3_greatestLabel_1r, sX3_greatestLabel_1n, sX3_greatestLabel_2, sX3_greatestLabel_3i, sX3_greatestLabel_3r, sX3_greatestLabel_3n, sX3_greatestLabel_5, sX3_greatestLabel_6, sX3_greatestLabel_9, sX3_greatestLabel_12, sX3_greatestLabel_13, sX3_greatestLabel_14, sX3_greatestLabel_17, sX3_greatestLabel_18, sX3_greatestLabel_19_0, sX3_greatestLabel_19_1, sX3_greatestLabel_19_2, sX3_greatestLabel_19_3, sX3_greatestLabel_22i, sX3_greatestLabel_22r, sX3_greatestLabel_22n, sX3_greatestLabel_23i, sX3_greatestLabel_23r, sX3_greatestLabel_23n, sX3_greatestLabel_26, sX3_greatestLabel_29, sX3_greatestLabel_30]
  have key := q_loop (fun i (acc : Int32) => acc = q_great lab i) (fun i acc => ab_X rom (ab_M rom d) cX3_greatestLabel 1 1 4 [.ref k, .int acc, .int (nI i)] [] hp) (fun i _ => q_great lab (i + 1)) n (fun i acc hi9 ha => by
    refine ⟨rfl, ?_⟩
    subst ha
    rw [sX3_greatestLabel_4]
    simp only [sX3_greatestLabel_0, sX3_greatestLabel_1i, sX3_greatestLabel_1r, sX3_greatestLabel_1n, sX3_greatestLabel_2, sX3_greatestLabel_3i, sX3_greatestLabel_3r, sX3_greatestLabel_3n, sX3_greatestLabel_5, sX3_greatestLabel_6, sX3_greatestLabel_9, sX3_greatestLabel_12, sX3_greatestLabel_13, sX3_greatestLabel_14, sX3_greatestLabel_17, sX3_greatestLabel_18, sX3_greatestLabel_19_0, sX3_greatestLabel_19_1, sX3_greatestLabel_19_2, sX3_greatestLabel_19_3, sX3_greatestLabel_22i, sX3_greatestLabel_22r, sX3_greatestLabel_22n, sX3_greatestLabel_23i, sX3_greatestLabel_23r, sX3_greatestLabel_23n, sX3_greatestLabel_26, sX3_greatestLabel_29, sX3_greatestLabel_30, h.f0, h.f4, Option.bind_some, Option.toList_some, Option.toList_none, List.cons_append, List.nil_append, h.rlab (show i < 7 by omega)]
    rw [if_pos (nI_lt hi9 (by omega))]
    simp only [nI_1, q_great]) n 0 (-1) (by omega) rfl
  refine key.2.trans ?_
  rw [key.1]
  simp only [sX3_greatestLabel_4, sX3_greatestLabel_5, sX3_greatestLabel_6, sX3_greatestLabel_9, sX3_greatestLabel_29, sX3_greatestLabel_30, h.f0, Option.bind_some, Option.toList_some, Option.toList_none, List.cons_append, List.nil_append]
  rw [if_neg (nI_nlt (Nat.le_refl n) (by omega))]
end
/-! LOOPS that end at the first -/
def q_find (p : Nat → Bool) : Nat → Nat → Option Nat
  | _, 0 => none
  | i, j + 1 => if p i = true then some i else q_find p (i + 1) j
theorem q_loopF {R : Type} (p : Nat → Bool) (X E : Nat → R) (N : R) (n : Nat) (hstep : ∀ i, i < n → X i = if p i = true then E i else X (i + 1)) (hend : X n = N) : ∀ j i, i + j = n → X i = match q_find p i j with
    | some z => E z
    | none => N
  | 0, i, h => by
    have e : i = n := by omega
    subst e
    exact hend
  | j + 1, i, h => by
    rw [hstep i (by omega)]
    unfold q_find
    by_cases hp : p i = true
    · rw [if_pos hp, if_pos hp]
    · rw [if_neg hp, if_neg hp]
      exact q_loopF p X E N n hstep hend j (i + 1) (by omega)
def q_fI (o : Option Nat) : Int32 := match o with
  | some z => nI z
  | none => -1
section
variable {rom : List (List Int32)} {hp : ab_H} {d k n m : Nat} {lo hi lab bes : List Int32}
/-- Net.pointWith -/
theorem c_pointWith (h : NetAt hp k n m lo hi lab bes) (hn : n ≤ 7) (l : Int32) : ab_M rom (d + 1) 30 [.ref k, .int l] hp = some (some (.int (q_fI (q_find (fun i => decide (lab.getD i 0 = l)) 0 n))), hp) := by
  rw [mX3_pointWith]
  simp only [sX3_pointWith_0, sX3_pointWith_1i, sX3_pointWith_1r, sX3_pointWith_1n, sX3_pointWith_3, sX3_pointWith_4, sX3_pointWith_7, sX3_pointWith_10, sX3_pointWith_11, sX3_pointWith_14, sX3_pointWith_15, sX3_pointWith_16, sX3_pointWith_17, sX3_pointWith_20, sX3_pointWith_21, sX3_pointWith_22i, sX3_pointWith_22r, sX3_pointWith_22n, sX3_pointWith_25, sX3_pointWith_28, sX3_pointWith_29]
  have key := q_loopF (fun i => decide (lab.getD i 0 = l)) (fun i => ab_X rom (ab_M rom d) cX3_pointWith 1 1 2 [.ref k, .int l, .int (nI i)] [] hp) (fun i => some (some (.int (nI i)), hp)) (some (some (.int (-1)), hp)) n (fun i hi9 => by
    rw [sX3_pointWith_2]
    simp only [sX3_pointWith_0, sX3_pointWith_1i, sX3_pointWith_1r, sX3_pointWith_1n, sX3_pointWith_3, sX3_pointWith_4, sX3_pointWith_7, sX3_pointWith_10, sX3_pointWith_11, sX3_pointWith_14, sX3_pointWith_15, sX3_pointWith_16, sX3_pointWith_17, sX3_pointWith_20, sX3_pointWith_21, sX3_pointWith_22i, sX3_pointWith_22r, sX3_pointWith_22n, sX3_pointWith_25, sX3_pointWith_28, sX3_pointWith_29, h.f0, h.f4, Option.bind_some, Option.toList_some, Option.toList_none, List.cons_append, List.nil_append, h.rlab (show i < 7 by omega)]
    rw [if_pos (nI_lt hi9 (by omega))]
    simp only [nI_1, decide_eq_true_eq]) (by
    rw [sX3_pointWith_2]
    simp only [sX3_pointWith_3, sX3_pointWith_4, sX3_pointWith_7, sX3_pointWith_28, sX3_pointWith_29, h.f0, Option.bind_some, Option.toList_some, Option.toList_none, List.cons_append, List.nil_append]
    rw [if_neg (nI_nlt (Nat.le_refl n) (by omega))]) n 0 (by omega)
  refine Eq.trans key ?_
  cases q_find (fun i => decide (lab.getD i 0 = l)) 0 n <;> rfl
/-- Net.findLine -/
theorem c_findLine (h : NetAt hp k n m lo hi lab bes) (hm : m ≤ 10) (a b : Int32) : ab_M rom (d + 1) 20 [.ref k, .int a, .int b] hp = some (some (.int (q_fI (q_find (fun i => decide (lo.getD i 0 = ab_min a b) && decide (hi.getD i 0 = ab_max a b)) 0 m))), hp) := by
  rw [mX3_findLine]
  simp only [sX3_findLine_0, sX3_findLine_1, sX3_findLine_2_0, sX3_findLine_2_1, sX3_findLine_2_2, sX3_findLine_2_3, sX3_findLine_5i, sX3_findLine_5r, sX3_findLine_5n, sX3_findLine_6, sX3_findLine_7, sX3_findLine_8_0, sX3_findLine_8_1, sX3_findLine_8_2, sX3_findLine_8_3, sX3_findLine_11i, sX3_findLine_11r, sX3_findLine_11n, sX3_findLine_13, sX3_findLine_14i, sX3_findLine_14r, sX3_findLine_14n, sX3_findLine_18, sX3_findLine_19, sX3_findLine_22, sX3_findLine_25, sX3_findLine_26, sX3_findLine_29, sX3_findLine_31, sX3_findLine_32, sX3_findLine_33, sX3_findLine_36, sX3_findLine_37, sX3_findLine_40, sX3_findLine_42, sX3_findLine_43, sX3_findLine_45, sX3_findLine_48, sX3_findLine_50, sX3_findLine_51i, sX3_findLine_51r, sX3_findLine_51n, sX3_findLine_54, sX3_findLine_57, sX3_findLine_58]
  have key := q_loopF (fun i => decide (lo.getD i 0 = ab_min a b) && decide (hi.getD i 0 = ab_max a b)) (fun i => ab_X rom (ab_M rom d) cX3_findLine 1 1 16 [.ref k, .int a, .int b, .int (ab_min a b), .int (ab_max a b), .int (nI i)] [] hp) (fun i => some (some (.int (nI i)), hp)) (some (some (.int (-1)), hp)) m (fun i hi9 => by
    rw [sX3_findLine_16]
    simp only [sX3_findLine_0, sX3_findLine_1, sX3_findLine_2_0, sX3_findLine_2_1, sX3_findLine_2_2, sX3_findLine_2_3, sX3_findLine_5i, sX3_findLine_5r, sX3_findLine_5n, sX3_findLine_6, sX3_findLine_7, sX3_findLine_8_0, sX3_findLine_8_1, sX3_findLine_8_2, sX3_findLine_8_3, sX3_findLine_11i, sX3_findLine_11r, sX3_findLine_11n, sX3_findLine_13, sX3_findLine_14i, sX3_findLine_14r, sX3_findLine_14n, sX3_findLine_18, sX3_findLine_19, sX3_findLine_22, sX3_findLine_25, sX3_findLine_26, sX3_findLine_29, sX3_findLine_31, sX3_findLine_32, sX3_findLine_33, sX3_findLine_36, sX3_findLine_37, sX3_findLine_40, sX3_findLine_42, sX3_findLine_43, sX3_findLine_45, sX3_findLine_48, sX3_findLine_50, sX3_findLine_51i, sX3_findLine_51r, sX3_findLine_51n, sX3_findLine_54, sX3_findLine_57, sX3_findLine_58, h.f1, h.f2, h.f3, Option.bind_some, Option.toList_some, Option.toList_none, List.cons_append, List.nil_append, h.rlo (show i < 10 by omega), h.rhi (show i < 10 by omega)]
    rw [if_pos (nI_lt hi9 (by omega))]
    simp only [nI_1, Bool.and_eq_true, decide_eq_true_eq]
    by_cases h1 : lo.getD i 0 = ab_min a b
    · by_cases h2 : hi.getD i 0 = ab_max a b
      · rw [if_pos h1, if_pos h2, if_pos ⟨h1, h2⟩]
      · rw [if_pos h1, if_neg h2, if_neg (fun q => h2 q.2)]
    · rw [if_neg h1, if_neg (fun q => h1 q.1)]) (by
    rw [sX3_findLine_16]
    simp only [sX3_findLine_18, sX3_findLine_19, sX3_findLine_22, sX3_findLine_57, sX3_findLine_58, h.f1, Option.bind_some, Option.toList_some, Option.toList_none, List.cons_append, List.nil_append]
    rw [if_neg (nI_nlt (Nat.le_refl m) (by omega))]) m 0 (by omega)
  refine Eq.trans key ?_
  cases q_find (fun i => decide (lo.getD i 0 = ab_min a b) && decide (hi.getD i 0 = ab_max a b)) 0 m <;> rfl
end
