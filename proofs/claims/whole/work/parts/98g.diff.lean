/-! COMPLETIONS: by differences; small things -/
def nxD (wor : Int32) : Nat → Int
  | 0 => 0
  | d + 1 => if bi wor ((d + 1 : Nat) : Int) = false then ((d + 1 : Nat) : Int) else nxD wor d
theorem nxD_sp (wor : Int32) : ∀ f : Nat, (nxD wor f = 0 ∧ ∀ v, 1 ≤ v → v ≤ (f : Int) → bi wor v = true) ∨ (1 ≤ nxD wor f ∧ nxD wor f ≤ f ∧ bi wor (nxD wor f) = false ∧ ∀ v, nxD wor f < v → v ≤ (f : Int) → bi wor v = true)
  | 0 => Or.inl ⟨rfl, fun v h1 h2 => by omega⟩
  | f + 1 => by
    unfold nxD
    by_cases h : bi wor ((f + 1 : Nat) : Int) = false
    · rw [if_pos h]
      exact Or.inr ⟨by omega, by omega, h, fun v h1 h2 => by omega⟩
    · rw [if_neg h]
      have ht : bi wor ((f + 1 : Nat) : Int) = true := by
        cases e : bi wor ((f + 1 : Nat) : Int) with
        | true => rfl
        | false => exact absurd e h
      rcases nxD_sp wor f with ⟨e, h1⟩ | ⟨h1, h2, h3, h4⟩
      · refine Or.inl ⟨e, fun v v1 v2 => ?_⟩
        by_cases e2 : v = ((f + 1 : Nat) : Int)
        · rw [e2]
          exact ht
        · exact h1 v v1 (by omega)
      · refine Or.inr ⟨h1, by omega, h3, fun v v1 v2 => ?_⟩
        by_cases e2 : v = ((f + 1 : Nat) : Int)
        · rw [e2]
          exact ht
        · exact h4 v v1 (by omega)
/-- how many differences may still have a line -/
def fre (bs : Int → Bool) (top : Int) : Int := zcnt (fun v => decide (1 ≤ v) && !bs v) (top + 1)
theorem fre_add {bs : Int → Bool} {top d : Int} (d1 : 1 ≤ d) (d2 : d ≤ top) (hd : bs d = false) : fre (fun v => bs v || decide (v = d)) top = fre bs top - 1 := by
  unfold fre
  have t0 : 0 ≤ top + 1 := by omega
  rw [zcnt_sum _ t0, zcnt_sum _ t0]
  show zsum (fun v => if (decide (1 ≤ v) && !(bs v || decide (v = d))) = true then (1 : Int) else 0) (top + 1) = zsum (fun v => if (decide (1 ≤ v) && !bs v) = true then (1 : Int) else 0) (top + 1) - 1
  have e : ∀ v, 0 ≤ v → v < top + 1 → (if (decide (1 ≤ v) && !bs v) = true then (1 : Int) else 0) = (if (decide (1 ≤ v) && !(bs v || decide (v = d))) = true then (1 : Int) else 0) + (if v = d then (1 : Int) else 0) := fun v _ _ => by
    by_cases a : v = d
    · subst a
      simp [hd, d1]
    · simp [a]
  have z1 : zsum (fun v => if v = d then (1 : Int) else 0) (top + 1) = 1 := by
    rw [zsum_one (a := d) (by omega) (by omega) (fun v _ _ hv => if_neg hv), if_pos rfl]
  rw [zsum_congr e t0, zsum_add _ _ t0, z1]
  omega
theorem rpt_inj {n : Int} {X : Int → Int} (hX : ∀ p, 0 ≤ p → p < n → 0 ≤ X p ∧ X p ≤ 20) (h : rpt n X ≤ 0) {p q : Int} (q0 : 0 ≤ q) (qp : q < p) (pn : p < n) : X q ≠ X p := by
  intro e
  have n0 : 0 ≤ n := by omega
  have h1 := hX p (by omega) pn
  have h2 : 2 ≤ cnL n X (X p) := by
    unfold cnL
    have h3 := zcnt_lt (p := fun t => decide (t = p)) (q := fun t => decide (X t = X p)) (n := n) (a := q) q0 (by omega) (fun t _ _ ht => by
      have := of_decide_eq_true ht
      subst this
      exact decide_eq_true rfl) (decide_eq_false (by omega)) (decide_eq_true e)
    have h4 := zcnt_pos (p := fun t => decide (t = p)) (n := n) (a := p) (by omega) pn (decide_eq_true rfl)
    omega
  have h5 := zsum_le (A := fun v => if v = X p then (1 : Int) else 0) (B := fun v => max (cnL n X v - 1) 0) (T := 21) (by omega) (fun v _ _ => by
    show (if v = X p then (1 : Int) else 0) ≤ max (cnL n X v - 1) 0
    split
    · rename_i e2
      rw [e2]
      omega
    · omega)
  rw [zsum_one (a := X p) h1.1 (by omega) (fun v _ _ hv => if_neg hv), if_pos rfl] at h5
  unfold rpt at h
  omega
section
variable {N : NR} {bs : Int → Bool} {s : Se}
theorem Sx.one {k top : Int} {lab : Int → Int} {x : List Int} (G : GN N) (hk : k ≠ 2) (t20 : top ≤ 20) (hx : Sx N bs k top 0 lab x) {i : Int} (i0 : 0 ≤ i) (i1 : i < N.m) : 1 ≤ wof N (xf x) k i ∧ wof N (xf x) k i ≤ top := by
  have g1 := G.lh i i0 i1
  have g2 := G.w.lo i
  have h1 := hx.2.1 (N.lo i) g2.1 (by omega)
  have h2 := hx.2.1 (N.hi i) (by omega) g1.2
  have h3 := rpt_inj (fun p p0 p1 => by have := hx.2.1 p p0 p1; omega) hx.2.2.2.1 g2.1 g1.1 g1.2
  unfold wof dif zab
  rw [if_neg hk]
  omega
/-- with no difference to spare each that is free has a line -/
theorem Sx.hit {k top d : Int} {lab : Int → Int} {x : List Int} (G : GN N) (hk : k ≠ 2) (hk4 : k ≠ 4) (t20 : top ≤ 20) (hx : Sx N bs k top 0 lab x) (hf : fre bs top = N.m) (d1 : 1 ≤ d) (d2 : d ≤ top) (hd : bs d = false) : ∃ i, 0 ≤ i ∧ i < N.m ∧ wof N (xf x) k i = d := by
  have m0 := G.w.m0
  obtain ⟨y1, y2⟩ := hx.2.2.2.2.1 hk4
  have h1 := zhit (f := wof N (xf x) k) (m := N.m) (T := top + 1) m0 (by omega) (fun i i0 i1 => by have := Sx.one G hk t20 hx i0 i1; omega)
  have hs : fre bs top = zsum (fun v => if (decide (1 ≤ v) && !bs v) = true then (1 : Int) else 0) (top + 1) := zcnt_sum _ (by omega)
  have h3 := zsum_tight (A := fun v => zcnt (fun i => decide (wof N (xf x) k i = v)) N.m) (B := fun v => if (decide (1 ≤ v) && !bs v) = true then (1 : Int) else 0) (T := top + 1) (by omega) (fun v v0 v1 => by
    show zcnt (fun i => decide (wof N (xf x) k i = v)) N.m ≤ if (decide (1 ≤ v) && !bs v) = true then (1 : Int) else 0
    by_cases e : (decide (1 ≤ v) && !bs v) = true
    · rw [if_pos e]
      refine zcnt_le1 m0 (fun a b a0 a1 b0 b1 ea eb => ?_)
      have ea := of_decide_eq_true ea
      have eb := of_decide_eq_true eb
      by_cases c1 : a < b
      · exact absurd (ea.trans eb.symm) (y1 b a a0 c1 b1)
      · by_cases c2 : b < a
        · exact absurd (eb.trans ea.symm) (y1 a b b0 c2 a1)
        · omega
    · rw [if_neg e, zcnt_zero m0 (fun i i0 i1 => decide_eq_false (fun q => e ?_))]
      · omega
      · have b1 := Sx.one G hk t20 hx i0 i1
        have b2 := y2 i i0 i1
        rw [q] at b1 b2
        rw [b2, decide_eq_true b1.1]
        rfl) (by omega) d (by omega) (by omega)
  have h4 : zcnt (fun i => decide (wof N (xf x) k i = d)) N.m = if (decide (1 ≤ d) && !bs d) = true then (1 : Int) else 0 := h3
  rw [hd, decide_eq_true d1, if_pos (show (true && !false) = true from rfl)] at h4
  obtain ⟨a, a0, a1, a2⟩ := zcnt_ex m0 (show 1 ≤ zcnt (fun i => decide (wof N (xf x) k i = d)) N.m by omega)
  exact ⟨a, a0, a1, of_decide_eq_true a2⟩
/-- where no difference is free all lines are labelled -/
theorem all_lines (S : SI N bs s) (hk4 : s.kind ≠ 4) (t0 : 0 ≤ s.top) {sk : Int} (sk0 : 0 ≤ sk) (hf : fre bs s.top = N.m + sk) (h : ∀ v, 1 ≤ v → v ≤ s.top → bi s.wor v = true) {i : Int} (i0 : 0 ≤ i) (i1 : i < N.m) : Ldl N s.lab i := by
  have m0 := S.G.w.m0
  have t20 := S.t1.2
  have hdec : ∀ i, Ldl N s.lab i ↔ (decide (s.lab (N.lo i) ≠ -1) && decide (s.lab (N.hi i) ≠ -1)) = true := fun i => by
    unfold Ldl
    rw [Bool.and_eq_true, decide_eq_true_eq, decide_eq_true_eq]
  -- free ones are hit
  have h1 : fre bs s.top ≤ zcnt (fun i => decide (s.lab (N.lo i) ≠ -1) && decide (s.lab (N.hi i) ≠ -1)) N.m := by
    unfold fre
    rw [zcnt_sum _ (by omega), zcnt_sum _ m0]
    have e1 : ∀ i, 0 ≤ i → i < N.m → (if (decide (s.lab (N.lo i) ≠ -1) && decide (s.lab (N.hi i) ≠ -1)) = true then (1 : Int) else 0) ≥ zsum (fun v => if ((decide (s.lab (N.lo i) ≠ -1) && decide (s.lab (N.hi i) ≠ -1)) && decide (wof N s.lab s.kind i = v)) = true then (1 : Int) else 0) (s.top + 1) := fun i i0 i1 => by
      by_cases a : (decide (s.lab (N.lo i) ≠ -1) && decide (s.lab (N.hi i) ≠ -1)) = true
      · rw [if_pos a, ← zcnt_sum (fun v => (decide (s.lab (N.lo i) ≠ -1) && decide (s.lab (N.hi i) ≠ -1)) && decide (wof N s.lab s.kind i = v)) (by omega)]
        refine zcnt_le1 (by omega) (fun x y _ _ _ _ hx hy => ?_)
        rw [Bool.and_eq_true, decide_eq_true_eq] at hx hy
        rw [← hx.2, ← hy.2]
      · rw [if_neg a, zsum_zero (by omega) (fun v _ _ => if_neg (fun q => a (by rw [Bool.and_eq_true] at q; exact q.1)))]
        omega
    have e2 := zsum_le (A := fun i => zsum (fun v => if ((decide (s.lab (N.lo i) ≠ -1) && decide (s.lab (N.hi i) ≠ -1)) && decide (wof N s.lab s.kind i = v)) = true then (1 : Int) else 0) (s.top + 1)) (B := fun i => if (decide (s.lab (N.lo i) ≠ -1) && decide (s.lab (N.hi i) ≠ -1)) = true then (1 : Int) else 0) (T := N.m) m0 (fun i i0 i1 => e1 i i0 i1)
    rw [zsum_swap (fun i v => if ((decide (s.lab (N.lo i) ≠ -1) && decide (s.lab (N.hi i) ≠ -1)) && decide (wof N s.lab s.kind i = v)) = true then (1 : Int) else 0) m0 (show 0 ≤ s.top + 1 by omega)] at e2
    refine Int.le_trans (zsum_le (by omega) (fun v v0 v1 => ?_)) e2
    show (if (decide (1 ≤ v) && !bs v) = true then (1 : Int) else 0) ≤ zsum (fun i => if ((decide (s.lab (N.lo i) ≠ -1) && decide (s.lab (N.hi i) ≠ -1)) && decide (wof N s.lab s.kind i = v)) = true then (1 : Int) else 0) N.m
    rw [← zcnt_sum (fun i => (decide (s.lab (N.lo i) ≠ -1) && decide (s.lab (N.hi i) ≠ -1)) && decide (wof N s.lab s.kind i = v)) m0]
    by_cases a : (decide (1 ≤ v) && !bs v) = true
    · rw [if_pos a]
      rw [Bool.and_eq_true, decide_eq_true_eq, Bool.not_eq_true'] at a
      rcases (S.wd hk4 v v0 (by omega)).mp (h v a.1 (by omega)) with hb | ⟨j, j0, j1, j2, j3⟩
      · rw [a.2] at hb
        cases hb
      · exact zcnt_pos (a := j) j0 j1 (by rw [(hdec j).mp j2, decide_eq_true j3]; rfl)
    · rw [if_neg a]
      exact (zcnt_bd _ m0).1
  apply (hdec i).mpr
  cases e : (decide (s.lab (N.lo i) ≠ -1) && decide (s.lab (N.hi i) ≠ -1)) with
  | true => rfl
  | false =>
    have h2 := zcnt_lt (p := fun i => decide (s.lab (N.lo i) ≠ -1) && decide (s.lab (N.hi i) ≠ -1)) (q := fun _ => true) (n := N.m) (a := i) i0 i1 (fun _ _ _ _ => rfl) e rfl
    have h3 := (zcnt_bd (fun _ => true) m0).2
    omega
end
section
variable {rom : List (List Int32)} {c : Cl} {r : Rf} {g : ab_H} {d : Nat}
theorem c_nextD {f : Nat} (hf : f ≤ 20) : ab_M rom (d + 1) 62 [.ref 80, .int (qI f)] (HH c r g) = some (some (.int (qI (nxD c.se.wor f))), HH c r g) := by
  rw [mX6_nextDifference]
  simp (disch := omega) only [sX6_nextDifference_0, sX6_nextDifference_1i, sX6_nextDifference_1r, sX6_nextDifference_1n, sX6_nextDifference_3, sX6_nextDifference_6, sX6_nextDifference_7, sX6_nextDifference_10, sX6_nextDifference_11, sX6_nextDifference_12, sX6_nextDifference_13, sX6_nextDifference_14, sX6_nextDifference_17, sX6_nextDifference_18, sX6_nextDifference_19i, sX6_nextDifference_19r, sX6_nextDifference_19n, sX6_nextDifference_22, sX6_nextDifference_25, sX6_nextDifference_26, hf_0_0, hf_0_1, hf_0_2, hf_0_3, hf_0_4, hf_0_5, hf_0_6, hf_0_7, hf_0_8, hf_0_9, hf_0_10, hf_1_0, hf_1_1, hr_2, hl_2, hf_3_0, hf_3_1, hr_4, hl_4, hf_26_0, hf_26_1, hf_26_2, hf_26_3, hf_26_4, hf_26_5, hf_26_6, hf_26_7, hf_27_0, hf_27_1, hf_27_2, hf_27_3, hr_29, hl_29, hf_80_0, hf_80_1, hf_80_2, hf_80_3, hf_80_4, hf_80_5, hf_80_6, hf_80_7, hf_80_8, hf_80_9, hf_80_10, hf_80_11, hf_80_12, hf_80_13, hf_80_14, hf_81_0, hf_81_1, hf_81_2, hf_81_3, hf_81_4, hf_81_5, hf_81_6, hr_82, hl_82, hr_83, hl_83, hr_84, hl_84, hr_85, hl_85, hr_86, hl_86, hr_87, hl_87, hr_88, hl_88, hr_89, hl_89, hr_90, hl_90, hr_91, hl_91, hf_92_0, hf_92_1, hf_92_2, hf_92_3, hf_92_4, hf_92_5, hf_92_6, hf_92_7, hf_92_8, hf_92_9, hf_92_10, hf_92_11, hf_92_12, hf_92_13, hf_92_14, hf_92_15, hf_92_16, hf_92_17, hf_92_18, hf_92_19, hf_92_20, hf_92_21, hf_92_22, hf_92_23, hf_92_24, hf_92_25, hf_92_26, hf_92_27, hf_92_28, hr_93, hl_93, hr_94, hl_94, hr_95, hl_95, hr_96, hl_96, hr_97, hl_97, hr_98, hl_98, hr_99, hl_99, hr_100, hl_100, hr_101, hl_101, hr_102, hl_102, hr_103, hl_103, hr_104, hr_105, hl_105, hf_nn, hf_nm, hf_nlo, hf_nhi, hf_nlab, hf_nbes, hr_lo, hr_hi, hr_lab, hr_bes, hq_slot, hq_past, hp_0_9, hp_0_10, hp_1_1, hw_2, hp_3_1, hw_4, hp_26_0, hp_26_1, hp_26_4, hp_26_5, hp_26_6, hp_26_7, hp_27_0, hp_27_1, hw_29, hp_80_5, hp_80_6, hp_80_7, hp_80_8, hp_80_9, hp_80_10, hp_80_11, hp_80_12, hp_80_13, hp_80_14, hp_81_0, hp_81_2, hp_81_4, hw_82, hw_83, hw_84, hw_85, hw_86, hw_87, hw_88, hw_89, hw_90, hw_91, hp_92_3, hp_92_5, hp_92_6, hp_92_7, hp_92_8, hp_92_9, hp_92_10, hp_92_11, hp_92_12, hp_92_15, hp_92_17, hp_92_18, hp_92_21, hp_92_22, hp_92_23, hp_92_28, hw_93, hw_94, hw_95, hw_96, hw_97, hw_98, hw_99, hw_100, hw_101, hw_102, hw_103, hw_104, hw_105, hw_lo, hw_hi, hw_lab, hw_bes, hp_nn, hp_nm, hi_0, hi_1, hi_3, hi_26, hi_27, hi_80, hi_81, hi_92, hi_n, NR.n_mk, NR.m_mk, NR.lo_mk, NR.hi_mk, NR.lab_mk, NR.bes_mk, NR.eta, Tp.B_mk, Tp.L_mk, Tp.eta, Rd.fn_mk, Rd.fp_mk, Rd.nx_mk, Rd.st_mk, Rd.tk_mk, Rd.vl_mk, Rd.eta, Pa.acts_mk, Pa.new_mk, Pa.sl_mk, Pa.eta, Se.lab_mk, Se.uses_mk, Se.ord_mk, Se.shi_mk, Se.net_mk, Se.kind_mk, Se.top_mk, Se.rep_mk, Se.all_mk, Se.wor_mk, Se.many_mk, Se.any_mk, Se.one_mk, Se.stop_mk, Se.eta, Ce.found_mk, Ce.ats_mk, Ce.wat_mk, Ce.tal_mk, Ce.cmp_mk, Ce.tar_mk, Ce.agr_mk, Ce.eta, Cl.net_mk, Cl.tp_mk, Cl.ou_mk, Cl.rd_mk, Cl.pa_mk, Cl.se_mk, Cl.ce_mk, Cl.mks_mk, Cl.ga_mk, Cl.fn_mk, Cl.fp_mk, Cl.eta, Ps.fk_mk, Ps.fp_mk, Ps.spot_mk, Ps.beg_mk, Ps.tok_mk, Ps.val_mk, Ps.bad_mk, Ps.eta, Ln.A_mk, Ln.B_mk, Ln.many_mk, Ln.eta, Lb.lab_mk, Lb.n_mk, Lb.tree_mk, Lb.eta, Sk.want_mk, Sk.hav_mk, Sk.found_mk, Sk.ends_mk, Sk.unl_mk, Sk.eta, Rf.row_mk, Rf.was_mk, Rf.kept_mk, Rf.km_mk, Rf.tp_mk, Rf.ps_mk, Rf.ln_mk, Rf.lb_mk, Rf.sk_mk, Rf.made_mk, Rf.num_mk, Rf.seen_mk, Rf.ou_mk, Rf.eta, Option.bind_some, Option.toList_some, Option.toList_none, List.cons_append, List.nil_append, ql_0, ql_1, ql_2, ql_3, ql_4, ql_5, ql_6, ql_7, ql_8, ql_9, ql_10, ql_11, ql_12, ql_13, ql_14, ql_15, ql_16, ql_17, ql_18, ql_19, ql_20, ql_21, ql_22, ql_23, ql_24, ql_30, ql_31, ql_32, ql_40, ql_44, ql_45, ql_48, ql_57, ql_58, ql_59, ql_61, ql_63, ql_66, ql_97, ql_99, ql_100, ql_101, ql_110, ql_116, ql_120, ql_122, ql_127, ql_128, ql_255, ql_256, ql_380, ql_400, ql_405, ql_450, ql_1000, ql_65536, ql_1398101, ql_252645135, ql_858993459, ql_1431655765, ql_2000000000, Int.reduceEq, Int.reduceLT, Int.reduceLE, Int.reduceToNat, reduceCtorEq, qI_add, qI_sub, qI_mul, qI_neg, qI_ltT, qI_eqT, qB0, qB1, zb_or, zb_or2, zq_min, zq_max, zq_abs, zq_div, zq_rem, zq_rem2, zt_val, sb_eq, zi_long, zi_in, zl_0, zl_1, zl_2, zl_3, zl_4, zl_5, zl_6, zl_7, zl_30, zl_99, zl_neg, zn_same, zn_zn, if_true, if_false, true_or, or_true, false_or, or_false, not_true_eq_false, not_false_eq_true]
  have key : ∀ (j : Nat), j ≤ 20 → ab_X rom (ab_M rom d) cX6_nextDifference 4 1 2 [.ref 80, .int (qI f), .int (qI j)] [] (HH c r g) = some (some (.int (qI (nxD c.se.wor j))), HH c r g) := by
    intro j
    induction j with
    | zero =>
      intro _
      rw [sX6_nextDifference_2]
      have b1 : ¬ (0 : Int) < ((0 : Nat) : Int) := by omega
      simp (disch := omega) only [sX6_nextDifference_0, sX6_nextDifference_1i, sX6_nextDifference_1r, sX6_nextDifference_1n, sX6_nextDifference_3, sX6_nextDifference_6, sX6_nextDifference_7, sX6_nextDifference_10, sX6_nextDifference_11, sX6_nextDifference_12, sX6_nextDifference_13, sX6_nextDifference_14, sX6_nextDifference_17, sX6_nextDifference_18, sX6_nextDifference_19i, sX6_nextDifference_19r, sX6_nextDifference_19n, sX6_nextDifference_22, sX6_nextDifference_25, sX6_nextDifference_26, b1, hf_0_0, hf_0_1, hf_0_2, hf_0_3, hf_0_4, hf_0_5, hf_0_6, hf_0_7, hf_0_8, hf_0_9, hf_0_10, hf_1_0, hf_1_1, hr_2, hl_2, hf_3_0, hf_3_1, hr_4, hl_4, hf_26_0, hf_26_1, hf_26_2, hf_26_3, hf_26_4, hf_26_5, hf_26_6, hf_26_7, hf_27_0, hf_27_1, hf_27_2, hf_27_3, hr_29, hl_29, hf_80_0, hf_80_1, hf_80_2, hf_80_3, hf_80_4, hf_80_5, hf_80_6, hf_80_7, hf_80_8, hf_80_9, hf_80_10, hf_80_11, hf_80_12, hf_80_13, hf_80_14, hf_81_0, hf_81_1, hf_81_2, hf_81_3, hf_81_4, hf_81_5, hf_81_6, hr_82, hl_82, hr_83, hl_83, hr_84, hl_84, hr_85, hl_85, hr_86, hl_86, hr_87, hl_87, hr_88, hl_88, hr_89, hl_89, hr_90, hl_90, hr_91, hl_91, hf_92_0, hf_92_1, hf_92_2, hf_92_3, hf_92_4, hf_92_5, hf_92_6, hf_92_7, hf_92_8, hf_92_9, hf_92_10, hf_92_11, hf_92_12, hf_92_13, hf_92_14, hf_92_15, hf_92_16, hf_92_17, hf_92_18, hf_92_19, hf_92_20, hf_92_21, hf_92_22, hf_92_23, hf_92_24, hf_92_25, hf_92_26, hf_92_27, hf_92_28, hr_93, hl_93, hr_94, hl_94, hr_95, hl_95, hr_96, hl_96, hr_97, hl_97, hr_98, hl_98, hr_99, hl_99, hr_100, hl_100, hr_101, hl_101, hr_102, hl_102, hr_103, hl_103, hr_104, hr_105, hl_105, hf_nn, hf_nm, hf_nlo, hf_nhi, hf_nlab, hf_nbes, hr_lo, hr_hi, hr_lab, hr_bes, hq_slot, hq_past, hp_0_9, hp_0_10, hp_1_1, hw_2, hp_3_1, hw_4, hp_26_0, hp_26_1, hp_26_4, hp_26_5, hp_26_6, hp_26_7, hp_27_0, hp_27_1, hw_29, hp_80_5, hp_80_6, hp_80_7, hp_80_8, hp_80_9, hp_80_10, hp_80_11, hp_80_12, hp_80_13, hp_80_14, hp_81_0, hp_81_2, hp_81_4, hw_82, hw_83, hw_84, hw_85, hw_86, hw_87, hw_88, hw_89, hw_90, hw_91, hp_92_3, hp_92_5, hp_92_6, hp_92_7, hp_92_8, hp_92_9, hp_92_10, hp_92_11, hp_92_12, hp_92_15, hp_92_17, hp_92_18, hp_92_21, hp_92_22, hp_92_23, hp_92_28, hw_93, hw_94, hw_95, hw_96, hw_97, hw_98, hw_99, hw_100, hw_101, hw_102, hw_103, hw_104, hw_105, hw_lo, hw_hi, hw_lab, hw_bes, hp_nn, hp_nm, hi_0, hi_1, hi_3, hi_26, hi_27, hi_80, hi_81, hi_92, hi_n, NR.n_mk, NR.m_mk, NR.lo_mk, NR.hi_mk, NR.lab_mk, NR.bes_mk, NR.eta, Tp.B_mk, Tp.L_mk, Tp.eta, Rd.fn_mk, Rd.fp_mk, Rd.nx_mk, Rd.st_mk, Rd.tk_mk, Rd.vl_mk, Rd.eta, Pa.acts_mk, Pa.new_mk, Pa.sl_mk, Pa.eta, Se.lab_mk, Se.uses_mk, Se.ord_mk, Se.shi_mk, Se.net_mk, Se.kind_mk, Se.top_mk, Se.rep_mk, Se.all_mk, Se.wor_mk, Se.many_mk, Se.any_mk, Se.one_mk, Se.stop_mk, Se.eta, Ce.found_mk, Ce.ats_mk, Ce.wat_mk, Ce.tal_mk, Ce.cmp_mk, Ce.tar_mk, Ce.agr_mk, Ce.eta, Cl.net_mk, Cl.tp_mk, Cl.ou_mk, Cl.rd_mk, Cl.pa_mk, Cl.se_mk, Cl.ce_mk, Cl.mks_mk, Cl.ga_mk, Cl.fn_mk, Cl.fp_mk, Cl.eta, Ps.fk_mk, Ps.fp_mk, Ps.spot_mk, Ps.beg_mk, Ps.tok_mk, Ps.val_mk, Ps.bad_mk, Ps.eta, Ln.A_mk, Ln.B_mk, Ln.many_mk, Ln.eta, Lb.lab_mk, Lb.n_mk, Lb.tree_mk, Lb.eta, Sk.want_mk, Sk.hav_mk, Sk.found_mk, Sk.ends_mk, Sk.unl_mk, Sk.eta, Rf.row_mk, Rf.was_mk, Rf.kept_mk, Rf.km_mk, Rf.tp_mk, Rf.ps_mk, Rf.ln_mk, Rf.lb_mk, Rf.sk_mk, Rf.made_mk, Rf.num_mk, Rf.seen_mk, Rf.ou_mk, Rf.eta, Option.bind_some, Option.toList_some, Option.toList_none, List.cons_append, List.nil_append, ql_0, ql_1, ql_2, ql_3, ql_4, ql_5, ql_6, ql_7, ql_8, ql_9, ql_10, ql_11, ql_12, ql_13, ql_14, ql_15, ql_16, ql_17, ql_18, ql_19, ql_20, ql_21, ql_22, ql_23, ql_24, ql_30, ql_31, ql_32, ql_40, ql_44, ql_45, ql_48, ql_57, ql_58, ql_59, ql_61, ql_63, ql_66, ql_97, ql_99, ql_100, ql_101, ql_110, ql_116, ql_120, ql_122, ql_127, ql_128, ql_255, ql_256, ql_380, ql_400, ql_405, ql_450, ql_1000, ql_65536, ql_1398101, ql_252645135, ql_858993459, ql_1431655765, ql_2000000000, Int.reduceEq, Int.reduceLT, Int.reduceLE, Int.reduceToNat, reduceCtorEq, qI_add, qI_sub, qI_mul, qI_neg, qI_ltT, qI_eqT, qB0, qB1, zb_or, zb_or2, zq_min, zq_max, zq_abs, zq_div, zq_rem, zq_rem2, zt_val, sb_eq, zi_long, zi_in, zl_0, zl_1, zl_2, zl_3, zl_4, zl_5, zl_6, zl_7, zl_30, zl_99, zl_neg, zn_same, zn_zn, if_true, if_false, true_or, or_true, false_or, or_false, not_true_eq_false, not_false_eq_true]
      rfl
    | succ j ih =>
      intro hj
      have b1 : (0 : Int) < ((j + 1 : Nat) : Int) := by omega
      have e1 : ((j + 1 : Nat) : Int) + -1 = (j : Int) := by omega
      rw [sX6_nextDifference_2]
      unfold nxD
      cases hb : bi c.se.wor ((j + 1 : Nat) : Int) with
      | false =>
        simp (disch := omega) only [sX6_nextDifference_0, sX6_nextDifference_1i, sX6_nextDifference_1r, sX6_nextDifference_1n, sX6_nextDifference_3, sX6_nextDifference_6, sX6_nextDifference_7, sX6_nextDifference_10, sX6_nextDifference_11, sX6_nextDifference_12, sX6_nextDifference_13, sX6_nextDifference_14, sX6_nextDifference_17, sX6_nextDifference_18, sX6_nextDifference_19i, sX6_nextDifference_19r, sX6_nextDifference_19n, sX6_nextDifference_22, sX6_nextDifference_25, sX6_nextDifference_26, b1, hb, hf_0_0, hf_0_1, hf_0_2, hf_0_3, hf_0_4, hf_0_5, hf_0_6, hf_0_7, hf_0_8, hf_0_9, hf_0_10, hf_1_0, hf_1_1, hr_2, hl_2, hf_3_0, hf_3_1, hr_4, hl_4, hf_26_0, hf_26_1, hf_26_2, hf_26_3, hf_26_4, hf_26_5, hf_26_6, hf_26_7, hf_27_0, hf_27_1, hf_27_2, hf_27_3, hr_29, hl_29, hf_80_0, hf_80_1, hf_80_2, hf_80_3, hf_80_4, hf_80_5, hf_80_6, hf_80_7, hf_80_8, hf_80_9, hf_80_10, hf_80_11, hf_80_12, hf_80_13, hf_80_14, hf_81_0, hf_81_1, hf_81_2, hf_81_3, hf_81_4, hf_81_5, hf_81_6, hr_82, hl_82, hr_83, hl_83, hr_84, hl_84, hr_85, hl_85, hr_86, hl_86, hr_87, hl_87, hr_88, hl_88, hr_89, hl_89, hr_90, hl_90, hr_91, hl_91, hf_92_0, hf_92_1, hf_92_2, hf_92_3, hf_92_4, hf_92_5, hf_92_6, hf_92_7, hf_92_8, hf_92_9, hf_92_10, hf_92_11, hf_92_12, hf_92_13, hf_92_14, hf_92_15, hf_92_16, hf_92_17, hf_92_18, hf_92_19, hf_92_20, hf_92_21, hf_92_22, hf_92_23, hf_92_24, hf_92_25, hf_92_26, hf_92_27, hf_92_28, hr_93, hl_93, hr_94, hl_94, hr_95, hl_95, hr_96, hl_96, hr_97, hl_97, hr_98, hl_98, hr_99, hl_99, hr_100, hl_100, hr_101, hl_101, hr_102, hl_102, hr_103, hl_103, hr_104, hr_105, hl_105, hf_nn, hf_nm, hf_nlo, hf_nhi, hf_nlab, hf_nbes, hr_lo, hr_hi, hr_lab, hr_bes, hq_slot, hq_past, hp_0_9, hp_0_10, hp_1_1, hw_2, hp_3_1, hw_4, hp_26_0, hp_26_1, hp_26_4, hp_26_5, hp_26_6, hp_26_7, hp_27_0, hp_27_1, hw_29, hp_80_5, hp_80_6, hp_80_7, hp_80_8, hp_80_9, hp_80_10, hp_80_11, hp_80_12, hp_80_13, hp_80_14, hp_81_0, hp_81_2, hp_81_4, hw_82, hw_83, hw_84, hw_85, hw_86, hw_87, hw_88, hw_89, hw_90, hw_91, hp_92_3, hp_92_5, hp_92_6, hp_92_7, hp_92_8, hp_92_9, hp_92_10, hp_92_11, hp_92_12, hp_92_15, hp_92_17, hp_92_18, hp_92_21, hp_92_22, hp_92_23, hp_92_28, hw_93, hw_94, hw_95, hw_96, hw_97, hw_98, hw_99, hw_100, hw_101, hw_102, hw_103, hw_104, hw_105, hw_lo, hw_hi, hw_lab, hw_bes, hp_nn, hp_nm, hi_0, hi_1, hi_3, hi_26, hi_27, hi_80, hi_81, hi_92, hi_n, NR.n_mk, NR.m_mk, NR.lo_mk, NR.hi_mk, NR.lab_mk, NR.bes_mk, NR.eta, Tp.B_mk, Tp.L_mk, Tp.eta, Rd.fn_mk, Rd.fp_mk, Rd.nx_mk, Rd.st_mk, Rd.tk_mk, Rd.vl_mk, Rd.eta, Pa.acts_mk, Pa.new_mk, Pa.sl_mk, Pa.eta, Se.lab_mk, Se.uses_mk, Se.ord_mk, Se.shi_mk, Se.net_mk, Se.kind_mk, Se.top_mk, Se.rep_mk, Se.all_mk, Se.wor_mk, Se.many_mk, Se.any_mk, Se.one_mk, Se.stop_mk, Se.eta, Ce.found_mk, Ce.ats_mk, Ce.wat_mk, Ce.tal_mk, Ce.cmp_mk, Ce.tar_mk, Ce.agr_mk, Ce.eta, Cl.net_mk, Cl.tp_mk, Cl.ou_mk, Cl.rd_mk, Cl.pa_mk, Cl.se_mk, Cl.ce_mk, Cl.mks_mk, Cl.ga_mk, Cl.fn_mk, Cl.fp_mk, Cl.eta, Ps.fk_mk, Ps.fp_mk, Ps.spot_mk, Ps.beg_mk, Ps.tok_mk, Ps.val_mk, Ps.bad_mk, Ps.eta, Ln.A_mk, Ln.B_mk, Ln.many_mk, Ln.eta, Lb.lab_mk, Lb.n_mk, Lb.tree_mk, Lb.eta, Sk.want_mk, Sk.hav_mk, Sk.found_mk, Sk.ends_mk, Sk.unl_mk, Sk.eta, Rf.row_mk, Rf.was_mk, Rf.kept_mk, Rf.km_mk, Rf.tp_mk, Rf.ps_mk, Rf.ln_mk, Rf.lb_mk, Rf.sk_mk, Rf.made_mk, Rf.num_mk, Rf.seen_mk, Rf.ou_mk, Rf.eta, Option.bind_some, Option.toList_some, Option.toList_none, List.cons_append, List.nil_append, ql_0, ql_1, ql_2, ql_3, ql_4, ql_5, ql_6, ql_7, ql_8, ql_9, ql_10, ql_11, ql_12, ql_13, ql_14, ql_15, ql_16, ql_17, ql_18, ql_19, ql_20, ql_21, ql_22, ql_23, ql_24, ql_30, ql_31, ql_32, ql_40, ql_44, ql_45, ql_48, ql_57, ql_58, ql_59, ql_61, ql_63, ql_66, ql_97, ql_99, ql_100, ql_101, ql_110, ql_116, ql_120, ql_122, ql_127, ql_128, ql_255, ql_256, ql_380, ql_400, ql_405, ql_450, ql_1000, ql_65536, ql_1398101, ql_252645135, ql_858993459, ql_1431655765, ql_2000000000, Int.reduceEq, Int.reduceLT, Int.reduceLE, Int.reduceToNat, reduceCtorEq, qI_add, qI_sub, qI_mul, qI_neg, qI_ltT, qI_eqT, qB0, qB1, zb_or, zb_or2, zq_min, zq_max, zq_abs, zq_div, zq_rem, zq_rem2, zt_val, sb_eq, zi_long, zi_in, zl_0, zl_1, zl_2, zl_3, zl_4, zl_5, zl_6, zl_7, zl_30, zl_99, zl_neg, zn_same, zn_zn, if_true, if_false, true_or, or_true, false_or, or_false, not_true_eq_false, not_false_eq_true]
      | true =>
        rw [if_neg (by decide)]
        simp (disch := omega) only [sX6_nextDifference_0, sX6_nextDifference_1i, sX6_nextDifference_1r, sX6_nextDifference_1n, sX6_nextDifference_3, sX6_nextDifference_6, sX6_nextDifference_7, sX6_nextDifference_10, sX6_nextDifference_11, sX6_nextDifference_12, sX6_nextDifference_13, sX6_nextDifference_14, sX6_nextDifference_17, sX6_nextDifference_18, sX6_nextDifference_19i, sX6_nextDifference_19r, sX6_nextDifference_19n, sX6_nextDifference_22, sX6_nextDifference_25, sX6_nextDifference_26, b1, hb, Bool.true_eq_false, e1, hf_0_0, hf_0_1, hf_0_2, hf_0_3, hf_0_4, hf_0_5, hf_0_6, hf_0_7, hf_0_8, hf_0_9, hf_0_10, hf_1_0, hf_1_1, hr_2, hl_2, hf_3_0, hf_3_1, hr_4, hl_4, hf_26_0, hf_26_1, hf_26_2, hf_26_3, hf_26_4, hf_26_5, hf_26_6, hf_26_7, hf_27_0, hf_27_1, hf_27_2, hf_27_3, hr_29, hl_29, hf_80_0, hf_80_1, hf_80_2, hf_80_3, hf_80_4, hf_80_5, hf_80_6, hf_80_7, hf_80_8, hf_80_9, hf_80_10, hf_80_11, hf_80_12, hf_80_13, hf_80_14, hf_81_0, hf_81_1, hf_81_2, hf_81_3, hf_81_4, hf_81_5, hf_81_6, hr_82, hl_82, hr_83, hl_83, hr_84, hl_84, hr_85, hl_85, hr_86, hl_86, hr_87, hl_87, hr_88, hl_88, hr_89, hl_89, hr_90, hl_90, hr_91, hl_91, hf_92_0, hf_92_1, hf_92_2, hf_92_3, hf_92_4, hf_92_5, hf_92_6, hf_92_7, hf_92_8, hf_92_9, hf_92_10, hf_92_11, hf_92_12, hf_92_13, hf_92_14, hf_92_15, hf_92_16, hf_92_17, hf_92_18, hf_92_19, hf_92_20, hf_92_21, hf_92_22, hf_92_23, hf_92_24, hf_92_25, hf_92_26, hf_92_27, hf_92_28, hr_93, hl_93, hr_94, hl_94, hr_95, hl_95, hr_96, hl_96, hr_97, hl_97, hr_98, hl_98, hr_99, hl_99, hr_100, hl_100, hr_101, hl_101, hr_102, hl_102, hr_103, hl_103, hr_104, hr_105, hl_105, hf_nn, hf_nm, hf_nlo, hf_nhi, hf_nlab, hf_nbes, hr_lo, hr_hi, hr_lab, hr_bes, hq_slot, hq_past, hp_0_9, hp_0_10, hp_1_1, hw_2, hp_3_1, hw_4, hp_26_0, hp_26_1, hp_26_4, hp_26_5, hp_26_6, hp_26_7, hp_27_0, hp_27_1, hw_29, hp_80_5, hp_80_6, hp_80_7, hp_80_8, hp_80_9, hp_80_10, hp_80_11, hp_80_12, hp_80_13, hp_80_14, hp_81_0, hp_81_2, hp_81_4, hw_82, hw_83, hw_84, hw_85, hw_86, hw_87, hw_88, hw_89, hw_90, hw_91, hp_92_3, hp_92_5, hp_92_6, hp_92_7, hp_92_8, hp_92_9, hp_92_10, hp_92_11, hp_92_12, hp_92_15, hp_92_17, hp_92_18, hp_92_21, hp_92_22, hp_92_23, hp_92_28, hw_93, hw_94, hw_95, hw_96, hw_97, hw_98, hw_99, hw_100, hw_101, hw_102, hw_103, hw_104, hw_105, hw_lo, hw_hi, hw_lab, hw_bes, hp_nn, hp_nm, hi_0, hi_1, hi_3, hi_26, hi_27, hi_80, hi_81, hi_92, hi_n, NR.n_mk, NR.m_mk, NR.lo_mk, NR.hi_mk, NR.lab_mk, NR.bes_mk, NR.eta, Tp.B_mk, Tp.L_mk, Tp.eta, Rd.fn_mk, Rd.fp_mk, Rd.nx_mk, Rd.st_mk, Rd.tk_mk, Rd.vl_mk, Rd.eta, Pa.acts_mk, Pa.new_mk, Pa.sl_mk, Pa.eta, Se.lab_mk, Se.uses_mk, Se.ord_mk, Se.shi_mk, Se.net_mk, Se.kind_mk, Se.top_mk, Se.rep_mk, Se.all_mk, Se.wor_mk, Se.many_mk, Se.any_mk, Se.one_mk, Se.stop_mk, Se.eta, Ce.found_mk, Ce.ats_mk, Ce.wat_mk, Ce.tal_mk, Ce.cmp_mk, Ce.tar_mk, Ce.agr_mk, Ce.eta, Cl.net_mk, Cl.tp_mk, Cl.ou_mk, Cl.rd_mk, Cl.pa_mk, Cl.se_mk, Cl.ce_mk, Cl.mks_mk, Cl.ga_mk, Cl.fn_mk, Cl.fp_mk, Cl.eta, Ps.fk_mk, Ps.fp_mk, Ps.spot_mk, Ps.beg_mk, Ps.tok_mk, Ps.val_mk, Ps.bad_mk, Ps.eta, Ln.A_mk, Ln.B_mk, Ln.many_mk, Ln.eta, Lb.lab_mk, Lb.n_mk, Lb.tree_mk, Lb.eta, Sk.want_mk, Sk.hav_mk, Sk.found_mk, Sk.ends_mk, Sk.unl_mk, Sk.eta, Rf.row_mk, Rf.was_mk, Rf.kept_mk, Rf.km_mk, Rf.tp_mk, Rf.ps_mk, Rf.ln_mk, Rf.lb_mk, Rf.sk_mk, Rf.made_mk, Rf.num_mk, Rf.seen_mk, Rf.ou_mk, Rf.eta, Option.bind_some, Option.toList_some, Option.toList_none, List.cons_append, List.nil_append, ql_0, ql_1, ql_2, ql_3, ql_4, ql_5, ql_6, ql_7, ql_8, ql_9, ql_10, ql_11, ql_12, ql_13, ql_14, ql_15, ql_16, ql_17, ql_18, ql_19, ql_20, ql_21, ql_22, ql_23, ql_24, ql_30, ql_31, ql_32, ql_40, ql_44, ql_45, ql_48, ql_57, ql_58, ql_59, ql_61, ql_63, ql_66, ql_97, ql_99, ql_100, ql_101, ql_110, ql_116, ql_120, ql_122, ql_127, ql_128, ql_255, ql_256, ql_380, ql_400, ql_405, ql_450, ql_1000, ql_65536, ql_1398101, ql_252645135, ql_858993459, ql_1431655765, ql_2000000000, Int.reduceEq, Int.reduceLT, Int.reduceLE, Int.reduceToNat, reduceCtorEq, qI_add, qI_sub, qI_mul, qI_neg, qI_ltT, qI_eqT, qB0, qB1, zb_or, zb_or2, zq_min, zq_max, zq_abs, zq_div, zq_rem, zq_rem2, zt_val, sb_eq, zi_long, zi_in, zl_0, zl_1, zl_2, zl_3, zl_4, zl_5, zl_6, zl_7, zl_30, zl_99, zl_neg, zn_same, zn_zn, if_true, if_false, true_or, or_true, false_or, or_false, not_true_eq_false, not_false_eq_true]
        exact ih (by omega)
  exact key f hf
end
