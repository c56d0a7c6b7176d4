/-! THE CLASS'S SEARCH, AS A WHOLE; THE CENSUS -/
section
variable {rom : List (List Int32)} {c : Cl} {r : Rf} {g : ab_H} {d j : Nat} {N : NR} {k : Int} {one : Bool}
theorem c_run (hN : c.net j = N) (hj : j < 14) (hsn : c.se.net < 14) (G : GN N) (hn : 0 < N.n) (k0 : 0 ≤ k) (k4 : k ≤ 4) (fe : 0 ≤ c.ce.found) (we : -1 ≤ c.ce.wat ∧ c.ce.wat < N.n) : ∃ s' e' st, s'.net < 14 ∧ ab_M rom (d + 60) 71 [.ref 80, .ref (pl j), .int (qI k), .int (qB one)] (HH c r g) = some (none, HH (Cl.mk c.net c.tp c.ou c.rd c.pa s' e' c.mks c.ga c.fn c.fp) r g) ∧ Res N.n (cadd N.n) one (CX N k) c.ce e' st := by
  have n0 := G.w.n0
  have n7 := G.w.n7
  cases hb : brd N k with
  | true =>
    refine ⟨c.se, c.ce, false, hsn, ?_, Res.no (fun x => brd_no G hn k0 k4 hb)⟩
    have q0 := k_barred (rom := rom) (c := c) (r := r) (g := g) (d := d + 54) (k := k) hj (by rw [hN]; exact G) k0 k4
    rw [hN, hb] at q0
    rw [mX6_run]
    simp (disch := omega) only [sX6_run_0, sX6_run_1, sX6_run_2_0, sX6_run_2_1, sX6_run_2_2, sX6_run_2_3, sX6_run_5, sX6_run_8, sX6_run_9, sX6_run_10, sX6_run_11, sX6_run_12, sX6_run_13_0, sX6_run_13_1, sX6_run_13_2, sX6_run_13_3, sX6_run_16, sX6_run_17_0, sX6_run_17_1, sX6_run_17_2, sX6_run_17_3, sX6_run_20, sX6_run_23, sX6_run_24, sX6_run_25, sX6_run_28, sX6_run_29, sX6_run_32, sX6_run_33, sX6_run_36, sX6_run_37, sX6_run_40, sX6_run_41_0, sX6_run_41_1, sX6_run_41_2, sX6_run_41_3, sX6_run_44, sX6_run_45, sX6_run_46_0, sX6_run_46_1, sX6_run_46_2, sX6_run_46_3, sX6_run_49, sX6_run_52, sX6_run_53_0, sX6_run_53_1, sX6_run_53_2, sX6_run_53_3, sX6_run_56, sX6_run_57, sX6_run_58, sX6_run_61, sX6_run_62, sX6_run_63_0, sX6_run_63_1, sX6_run_63_2, sX6_run_63_3, sX6_run_66, q0, Bool.true_eq_false, hf_0_0, hf_0_1, hf_0_2, hf_0_3, hf_0_4, hf_0_5, hf_0_6, hf_0_7, hf_0_8, hf_0_9, hf_0_10, hf_1_0, hf_1_1, hr_2, hl_2, hf_3_0, hf_3_1, hr_4, hl_4, hf_26_0, hf_26_1, hf_26_2, hf_26_3, hf_26_4, hf_26_5, hf_26_6, hf_26_7, hf_27_0, hf_27_1, hf_27_2, hf_27_3, hr_29, hl_29, hf_80_0, hf_80_1, hf_80_2, hf_80_3, hf_80_4, hf_80_5, hf_80_6, hf_80_7, hf_80_8, hf_80_9, hf_80_10, hf_80_11, hf_80_12, hf_80_13, hf_80_14, hf_81_0, hf_81_1, hf_81_2, hf_81_3, hf_81_4, hf_81_5, hf_81_6, hr_82, hl_82, hr_83, hl_83, hr_84, hl_84, hr_85, hl_85, hr_86, hl_86, hr_87, hl_87, hr_88, hl_88, hr_89, hl_89, hr_90, hl_90, hr_91, hl_91, hf_92_0, hf_92_1, hf_92_2, hf_92_3, hf_92_4, hf_92_5, hf_92_6, hf_92_7, hf_92_8, hf_92_9, hf_92_10, hf_92_11, hf_92_12, hf_92_13, hf_92_14, hf_92_15, hf_92_16, hf_92_17, hf_92_18, hf_92_19, hf_92_20, hf_92_21, hf_92_22, hf_92_23, hf_92_24, hf_92_25, hf_92_26, hf_92_27, hf_92_28, hr_93, hl_93, hr_94, hl_94, hr_95, hl_95, hr_96, hl_96, hr_97, hl_97, hr_98, hl_98, hr_99, hl_99, hr_100, hl_100, hr_101, hl_101, hr_102, hl_102, hr_103, hl_103, hr_104, hr_105, hl_105, hf_nn, hf_nm, hf_nlo, hf_nhi, hf_nlab, hf_nbes, hr_lo, hr_hi, hr_lab, hr_bes, hq_slot, hq_past, hp_0_9, hp_0_10, hp_1_1, hw_2, hp_3_1, hw_4, hp_26_0, hp_26_1, hp_26_4, hp_26_5, hp_26_6, hp_26_7, hp_27_0, hp_27_1, hw_29, hp_80_5, hp_80_6, hp_80_7, hp_80_8, hp_80_9, hp_80_10, hp_80_11, hp_80_12, hp_80_13, hp_80_14, hp_81_0, hp_81_2, hp_81_4, hw_82, hw_83, hw_84, hw_85, hw_86, hw_87, hw_88, hw_89, hw_90, hw_91, hp_92_3, hp_92_5, hp_92_6, hp_92_7, hp_92_8, hp_92_9, hp_92_10, hp_92_11, hp_92_12, hp_92_15, hp_92_17, hp_92_18, hp_92_21, hp_92_22, hp_92_23, hp_92_28, hw_93, hw_94, hw_95, hw_96, hw_97, hw_98, hw_99, hw_100, hw_101, hw_102, hw_103, hw_104, hw_105, hw_lo, hw_hi, hw_lab, hw_bes, hp_nn, hp_nm, hi_0, hi_1, hi_3, hi_26, hi_27, hi_80, hi_81, hi_92, hi_n, NR.n_mk, NR.m_mk, NR.lo_mk, NR.hi_mk, NR.lab_mk, NR.bes_mk, NR.eta, Tp.B_mk, Tp.L_mk, Tp.eta, Rd.fn_mk, Rd.fp_mk, Rd.nx_mk, Rd.st_mk, Rd.tk_mk, Rd.vl_mk, Rd.eta, Pa.acts_mk, Pa.new_mk, Pa.sl_mk, Pa.eta, Se.lab_mk, Se.uses_mk, Se.ord_mk, Se.shi_mk, Se.net_mk, Se.kind_mk, Se.top_mk, Se.rep_mk, Se.all_mk, Se.wor_mk, Se.many_mk, Se.any_mk, Se.one_mk, Se.stop_mk, Se.eta, Ce.found_mk, Ce.ats_mk, Ce.wat_mk, Ce.tal_mk, Ce.cmp_mk, Ce.tar_mk, Ce.agr_mk, Ce.eta, Cl.net_mk, Cl.tp_mk, Cl.ou_mk, Cl.rd_mk, Cl.pa_mk, Cl.se_mk, Cl.ce_mk, Cl.mks_mk, Cl.ga_mk, Cl.fn_mk, Cl.fp_mk, Cl.eta, Ps.fk_mk, Ps.fp_mk, Ps.spot_mk, Ps.beg_mk, Ps.tok_mk, Ps.val_mk, Ps.bad_mk, Ps.eta, Ln.A_mk, Ln.B_mk, Ln.many_mk, Ln.eta, Lb.lab_mk, Lb.n_mk, Lb.tree_mk, Lb.eta, Sk.want_mk, Sk.hav_mk, Sk.found_mk, Sk.ends_mk, Sk.unl_mk, Sk.eta, Rf.row_mk, Rf.was_mk, Rf.kept_mk, Rf.km_mk, Rf.tp_mk, Rf.ps_mk, Rf.ln_mk, Rf.lb_mk, Rf.sk_mk, Rf.made_mk, Rf.num_mk, Rf.seen_mk, Rf.ou_mk, Rf.eta, Option.bind_some, Option.toList_some, Option.toList_none, List.cons_append, List.nil_append, ql_0, ql_1, ql_2, ql_3, ql_4, ql_5, ql_6, ql_7, ql_8, ql_9, ql_10, ql_11, ql_12, ql_13, ql_14, ql_15, ql_16, ql_17, ql_18, ql_19, ql_20, ql_21, ql_22, ql_23, ql_24, ql_30, ql_31, ql_32, ql_40, ql_44, ql_45, ql_48, ql_57, ql_58, ql_59, ql_61, ql_63, ql_66, ql_97, ql_99, ql_100, ql_101, ql_110, ql_116, ql_120, ql_122, ql_127, ql_128, ql_255, ql_256, ql_380, ql_400, ql_405, ql_450, ql_1000, ql_65536, ql_1398101, ql_252645135, ql_858993459, ql_1431655765, ql_2000000000, Int.reduceEq, Int.reduceLT, Int.reduceLE, Int.reduceToNat, reduceCtorEq, qI_add, qI_sub, qI_mul, qI_neg, qI_ltT, qI_eqT, qB0, qB1, zb_or, zb_or2, zq_min, zq_max, zq_abs, zq_div, zq_rem, zq_rem2, zt_val, sb_eq, zi_long, zi_in, zl_0, zl_1, zl_2, zl_3, zl_4, zl_5, zl_6, zl_7, zl_30, zl_99, zl_neg, zn_same, zn_zn, if_true, if_false, true_or, or_true, false_or, or_false, not_true_eq_false, not_false_eq_true]
  | false =>
    obtain ⟨s', shi', e', st', h1, h2, h3⟩ := c_run2 (rom := rom) (c := c) (r := r) (g := g) (d := d) (one := one) hN hj G hn k0 k4 hb fe we
    have hs : ((Se.mk s'.lab s'.uses s'.ord shi' s'.net s'.kind s'.top s'.rep s'.all s'.wor s'.many s'.any s'.one st')).net < 14 := by
      show s'.net < 14
      omega
    rcases h3 with ⟨h3, h4⟩ | ⟨-, h3⟩ | ⟨h3, p, p0, p1, h4⟩
    · exact ⟨(Se.mk s'.lab s'.uses s'.ord shi' s'.net s'.kind s'.top s'.rep s'.all s'.wor s'.many s'.any s'.one st'), e', false, hs, h2, by rw [h4]; exact Res.no h3⟩
    · exact ⟨(Se.mk s'.lab s'.uses s'.ord shi' s'.net s'.kind s'.top s'.rep s'.all s'.wor s'.many s'.any s'.one st'), e', st', hs, h2, h3⟩
    · obtain ⟨h5, h6⟩ := h3
      subst h5
      have hl : ∀ p, 0 ≤ p → p < N.n → N.lab p = -1 := fun p p0 p1 => by
        have h7 := bi_zset (p := isL N) n0 (show N.n ≤ 32 by omega) p0 (show p < 32 by omega)
        rw [h6, bi_q0, decide_eq_true p1, Bool.true_and] at h7
        have h8 := h7.symm
        unfold isL at h8
        rw [Bool.not_eq_false', decide_eq_true_eq] at h8
        exact h8
      have hm1 : 1 ≤ N.m := by
        have m0 := G.w.m0
        unfold brd at hb
        rw [if_neg (by omega), if_neg (by omega), if_pos rfl] at hb
        by_cases e : N.m = 0
        · rw [decide_eq_true e] at hb
          simp at hb
        · omega
      exact ⟨(Se.mk s'.lab s'.uses s'.ord shi' s'.net s'.kind s'.top s'.rep s'.all s'.wor s'.many s'.any s'.one st'), e', st', hs, h2, Res.shift G hl hm1 p0 p1 h4⟩
def ceB (e : Ce) : Ce := Ce.mk 0 (fun _ => qI 0) (-1) e.tal false e.tar e.agr
theorem c_fill82 : ab_M rom (d + 1) 266 [.ref 82, .int (qI 0)] (HH c r g) = some (none, HH (Cl.mk c.net c.tp c.ou c.rd c.pa c.se ((Ce.mk c.ce.found (fun _ => qI 0) c.ce.wat c.ce.tal c.ce.cmp c.ce.tar c.ce.agr)) c.mks c.ga c.fn c.fp) r g) := by
  rw [j_fill (qI 0) hc_82 (by rw [zr_len]; decide), zr_len, zr_const, ← hs_82]
theorem c_fill83 : ab_M rom (d + 1) 266 [.ref 83, .int (qI 0)] (HH c r g) = some (none, HH (Cl.mk c.net c.tp c.ou c.rd c.pa c.se ((Ce.mk c.ce.found c.ce.ats c.ce.wat (fun _ => 0) c.ce.cmp c.ce.tar c.ce.agr)) c.mks c.ga c.fn c.fp) r g) := by
  rw [j_fill (qI 0) hc_83 (by rw [zr_len]; decide), zr_len, zr_const, ← hs_83]
theorem c_fill85 : ab_M rom (d + 1) 266 [.ref 85, .int (qI 0)] (HH c r g) = some (none, HH (Cl.mk c.net c.tp c.ou c.rd c.pa c.se ((Ce.mk c.ce.found c.ce.ats c.ce.wat c.ce.tal c.ce.cmp c.ce.tar (fun _ => 0))) c.mks c.ga c.fn c.fp) r g) := by
  rw [j_fill (qI 0) hc_85 (by rw [zr_len]; decide), zr_len, zr_const, ← hs_85]
theorem c_cbegin : ab_M rom (d + 2) 3 [.ref 81] (HH c r g) = some (none, HH (Cl.mk c.net c.tp c.ou c.rd c.pa c.se (ceB c.ce) c.mks c.ga c.fn c.fp) r g) := by
  have hq : ∀ (c' : Cl), ab_fpt (HH c' r g) 81 0 4 (.int (qI 0)) = some (HH (Cl.mk c'.net c'.tp c'.ou c'.rd c'.pa c'.se ((Ce.mk c'.ce.found c'.ce.ats c'.ce.wat c'.ce.tal false c'.ce.tar c'.ce.agr)) c'.mks c'.ga c'.fn c'.fp) r g) := fun c' => hp_81_4 (b := false)
  rw [mX0_begin]
  unfold ceB
  simp (disch := omega) only [sX0_begin_0, sX0_begin_1, sX0_begin_2, sX0_begin_5, sX0_begin_6, sX0_begin_9, sX0_begin_10_0, sX0_begin_10_1, sX0_begin_10_2, sX0_begin_10_3, sX0_begin_13, sX0_begin_14, sX0_begin_15, sX0_begin_18, sX0_begin_19, sX0_begin_20, sX0_begin_23, c_fill82, hq, hf_0_0, hf_0_1, hf_0_2, hf_0_3, hf_0_4, hf_0_5, hf_0_6, hf_0_7, hf_0_8, hf_0_9, hf_0_10, hf_1_0, hf_1_1, hr_2, hl_2, hf_3_0, hf_3_1, hr_4, hl_4, hf_26_0, hf_26_1, hf_26_2, hf_26_3, hf_26_4, hf_26_5, hf_26_6, hf_26_7, hf_27_0, hf_27_1, hf_27_2, hf_27_3, hr_29, hl_29, hf_80_0, hf_80_1, hf_80_2, hf_80_3, hf_80_4, hf_80_5, hf_80_6, hf_80_7, hf_80_8, hf_80_9, hf_80_10, hf_80_11, hf_80_12, hf_80_13, hf_80_14, hf_81_0, hf_81_1, hf_81_2, hf_81_3, hf_81_4, hf_81_5, hf_81_6, hr_82, hl_82, hr_83, hl_83, hr_84, hl_84, hr_85, hl_85, hr_86, hl_86, hr_87, hl_87, hr_88, hl_88, hr_89, hl_89, hr_90, hl_90, hr_91, hl_91, hf_92_0, hf_92_1, hf_92_2, hf_92_3, hf_92_4, hf_92_5, hf_92_6, hf_92_7, hf_92_8, hf_92_9, hf_92_10, hf_92_11, hf_92_12, hf_92_13, hf_92_14, hf_92_15, hf_92_16, hf_92_17, hf_92_18, hf_92_19, hf_92_20, hf_92_21, hf_92_22, hf_92_23, hf_92_24, hf_92_25, hf_92_26, hf_92_27, hf_92_28, hr_93, hl_93, hr_94, hl_94, hr_95, hl_95, hr_96, hl_96, hr_97, hl_97, hr_98, hl_98, hr_99, hl_99, hr_100, hl_100, hr_101, hl_101, hr_102, hl_102, hr_103, hl_103, hr_104, hr_105, hl_105, hf_nn, hf_nm, hf_nlo, hf_nhi, hf_nlab, hf_nbes, hr_lo, hr_hi, hr_lab, hr_bes, hq_slot, hq_past, hp_0_9, hp_0_10, hp_1_1, hw_2, hp_3_1, hw_4, hp_26_0, hp_26_1, hp_26_4, hp_26_5, hp_26_6, hp_26_7, hp_27_0, hp_27_1, hw_29, hp_80_5, hp_80_6, hp_80_7, hp_80_8, hp_80_9, hp_80_10, hp_80_11, hp_80_12, hp_80_13, hp_80_14, hp_81_0, hp_81_2, hp_81_4, hw_82, hw_83, hw_84, hw_85, hw_86, hw_87, hw_88, hw_89, hw_90, hw_91, hp_92_3, hp_92_5, hp_92_6, hp_92_7, hp_92_8, hp_92_9, hp_92_10, hp_92_11, hp_92_12, hp_92_15, hp_92_17, hp_92_18, hp_92_21, hp_92_22, hp_92_23, hp_92_28, hw_93, hw_94, hw_95, hw_96, hw_97, hw_98, hw_99, hw_100, hw_101, hw_102, hw_103, hw_104, hw_105, hw_lo, hw_hi, hw_lab, hw_bes, hp_nn, hp_nm, hi_0, hi_1, hi_3, hi_26, hi_27, hi_80, hi_81, hi_92, hi_n, NR.n_mk, NR.m_mk, NR.lo_mk, NR.hi_mk, NR.lab_mk, NR.bes_mk, NR.eta, Tp.B_mk, Tp.L_mk, Tp.eta, Rd.fn_mk, Rd.fp_mk, Rd.nx_mk, Rd.st_mk, Rd.tk_mk, Rd.vl_mk, Rd.eta, Pa.acts_mk, Pa.new_mk, Pa.sl_mk, Pa.eta, Se.lab_mk, Se.uses_mk, Se.ord_mk, Se.shi_mk, Se.net_mk, Se.kind_mk, Se.top_mk, Se.rep_mk, Se.all_mk, Se.wor_mk, Se.many_mk, Se.any_mk, Se.one_mk, Se.stop_mk, Se.eta, Ce.found_mk, Ce.ats_mk, Ce.wat_mk, Ce.tal_mk, Ce.cmp_mk, Ce.tar_mk, Ce.agr_mk, Ce.eta, Cl.net_mk, Cl.tp_mk, Cl.ou_mk, Cl.rd_mk, Cl.pa_mk, Cl.se_mk, Cl.ce_mk, Cl.mks_mk, Cl.ga_mk, Cl.fn_mk, Cl.fp_mk, Cl.eta, Ps.fk_mk, Ps.fp_mk, Ps.spot_mk, Ps.beg_mk, Ps.tok_mk, Ps.val_mk, Ps.bad_mk, Ps.eta, Ln.A_mk, Ln.B_mk, Ln.many_mk, Ln.eta, Lb.lab_mk, Lb.n_mk, Lb.tree_mk, Lb.eta, Sk.want_mk, Sk.hav_mk, Sk.found_mk, Sk.ends_mk, Sk.unl_mk, Sk.eta, Rf.row_mk, Rf.was_mk, Rf.kept_mk, Rf.km_mk, Rf.tp_mk, Rf.ps_mk, Rf.ln_mk, Rf.lb_mk, Rf.sk_mk, Rf.made_mk, Rf.num_mk, Rf.seen_mk, Rf.ou_mk, Rf.eta, Option.bind_some, Option.toList_some, Option.toList_none, List.cons_append, List.nil_append, ql_0, ql_1, ql_2, ql_3, ql_4, ql_5, ql_6, ql_7, ql_8, ql_9, ql_10, ql_11, ql_12, ql_13, ql_14, ql_15, ql_16, ql_17, ql_18, ql_19, ql_20, ql_21, ql_22, ql_23, ql_24, ql_30, ql_31, ql_32, ql_40, ql_44, ql_45, ql_48, ql_57, ql_58, ql_59, ql_61, ql_63, ql_66, ql_97, ql_99, ql_100, ql_101, ql_110, ql_116, ql_120, ql_122, ql_127, ql_128, ql_255, ql_256, ql_380, ql_400, ql_405, ql_450, ql_1000, ql_65536, ql_1398101, ql_252645135, ql_858993459, ql_1431655765, ql_2000000000, Int.reduceEq, Int.reduceLT, Int.reduceLE, Int.reduceToNat, reduceCtorEq, qI_add, qI_sub, qI_mul, qI_neg, qI_ltT, qI_eqT, qB0, qB1, zb_or, zb_or2, zq_min, zq_max, zq_abs, zq_div, zq_rem, zq_rem2, zt_val, sb_eq, zi_long, zi_in, zl_0, zl_1, zl_2, zl_3, zl_4, zl_5, zl_6, zl_7, zl_30, zl_99, zl_neg, zn_same, zn_zn, if_true, if_false, true_or, or_true, false_or, or_false, not_true_eq_false, not_false_eq_true]
theorem c_cwatch {p : Int} : ab_M rom (d + 3) 5 [.ref 81, .int (qI p)] (HH c r g) = some (none, HH (Cl.mk c.net c.tp c.ou c.rd c.pa c.se ((Ce.mk (ceB c.ce).found (ceB c.ce).ats p (fun _ => 0) (ceB c.ce).cmp (ceB c.ce).tar (ceB c.ce).agr)) c.mks c.ga c.fn c.fp) r g) := by
  rw [mX0_beginWatching]
  simp (disch := omega) only [sX0_beginWatching_0, sX0_beginWatching_1_0, sX0_beginWatching_1_1, sX0_beginWatching_1_2, sX0_beginWatching_1_3, sX0_beginWatching_4, sX0_beginWatching_5, sX0_beginWatching_6, sX0_beginWatching_9, sX0_beginWatching_10, sX0_beginWatching_13, sX0_beginWatching_14_0, sX0_beginWatching_14_1, sX0_beginWatching_14_2, sX0_beginWatching_14_3, sX0_beginWatching_17, c_cbegin, c_fill83, hf_0_0, hf_0_1, hf_0_2, hf_0_3, hf_0_4, hf_0_5, hf_0_6, hf_0_7, hf_0_8, hf_0_9, hf_0_10, hf_1_0, hf_1_1, hr_2, hl_2, hf_3_0, hf_3_1, hr_4, hl_4, hf_26_0, hf_26_1, hf_26_2, hf_26_3, hf_26_4, hf_26_5, hf_26_6, hf_26_7, hf_27_0, hf_27_1, hf_27_2, hf_27_3, hr_29, hl_29, hf_80_0, hf_80_1, hf_80_2, hf_80_3, hf_80_4, hf_80_5, hf_80_6, hf_80_7, hf_80_8, hf_80_9, hf_80_10, hf_80_11, hf_80_12, hf_80_13, hf_80_14, hf_81_0, hf_81_1, hf_81_2, hf_81_3, hf_81_4, hf_81_5, hf_81_6, hr_82, hl_82, hr_83, hl_83, hr_84, hl_84, hr_85, hl_85, hr_86, hl_86, hr_87, hl_87, hr_88, hl_88, hr_89, hl_89, hr_90, hl_90, hr_91, hl_91, hf_92_0, hf_92_1, hf_92_2, hf_92_3, hf_92_4, hf_92_5, hf_92_6, hf_92_7, hf_92_8, hf_92_9, hf_92_10, hf_92_11, hf_92_12, hf_92_13, hf_92_14, hf_92_15, hf_92_16, hf_92_17, hf_92_18, hf_92_19, hf_92_20, hf_92_21, hf_92_22, hf_92_23, hf_92_24, hf_92_25, hf_92_26, hf_92_27, hf_92_28, hr_93, hl_93, hr_94, hl_94, hr_95, hl_95, hr_96, hl_96, hr_97, hl_97, hr_98, hl_98, hr_99, hl_99, hr_100, hl_100, hr_101, hl_101, hr_102, hl_102, hr_103, hl_103, hr_104, hr_105, hl_105, hf_nn, hf_nm, hf_nlo, hf_nhi, hf_nlab, hf_nbes, hr_lo, hr_hi, hr_lab, hr_bes, hq_slot, hq_past, hp_0_9, hp_0_10, hp_1_1, hw_2, hp_3_1, hw_4, hp_26_0, hp_26_1, hp_26_4, hp_26_5, hp_26_6, hp_26_7, hp_27_0, hp_27_1, hw_29, hp_80_5, hp_80_6, hp_80_7, hp_80_8, hp_80_9, hp_80_10, hp_80_11, hp_80_12, hp_80_13, hp_80_14, hp_81_0, hp_81_2, hp_81_4, hw_82, hw_83, hw_84, hw_85, hw_86, hw_87, hw_88, hw_89, hw_90, hw_91, hp_92_3, hp_92_5, hp_92_6, hp_92_7, hp_92_8, hp_92_9, hp_92_10, hp_92_11, hp_92_12, hp_92_15, hp_92_17, hp_92_18, hp_92_21, hp_92_22, hp_92_23, hp_92_28, hw_93, hw_94, hw_95, hw_96, hw_97, hw_98, hw_99, hw_100, hw_101, hw_102, hw_103, hw_104, hw_105, hw_lo, hw_hi, hw_lab, hw_bes, hp_nn, hp_nm, hi_0, hi_1, hi_3, hi_26, hi_27, hi_80, hi_81, hi_92, hi_n, NR.n_mk, NR.m_mk, NR.lo_mk, NR.hi_mk, NR.lab_mk, NR.bes_mk, NR.eta, Tp.B_mk, Tp.L_mk, Tp.eta, Rd.fn_mk, Rd.fp_mk, Rd.nx_mk, Rd.st_mk, Rd.tk_mk, Rd.vl_mk, Rd.eta, Pa.acts_mk, Pa.new_mk, Pa.sl_mk, Pa.eta, Se.lab_mk, Se.uses_mk, Se.ord_mk, Se.shi_mk, Se.net_mk, Se.kind_mk, Se.top_mk, Se.rep_mk, Se.all_mk, Se.wor_mk, Se.many_mk, Se.any_mk, Se.one_mk, Se.stop_mk, Se.eta, Ce.found_mk, Ce.ats_mk, Ce.wat_mk, Ce.tal_mk, Ce.cmp_mk, Ce.tar_mk, Ce.agr_mk, Ce.eta, Cl.net_mk, Cl.tp_mk, Cl.ou_mk, Cl.rd_mk, Cl.pa_mk, Cl.se_mk, Cl.ce_mk, Cl.mks_mk, Cl.ga_mk, Cl.fn_mk, Cl.fp_mk, Cl.eta, Ps.fk_mk, Ps.fp_mk, Ps.spot_mk, Ps.beg_mk, Ps.tok_mk, Ps.val_mk, Ps.bad_mk, Ps.eta, Ln.A_mk, Ln.B_mk, Ln.many_mk, Ln.eta, Lb.lab_mk, Lb.n_mk, Lb.tree_mk, Lb.eta, Sk.want_mk, Sk.hav_mk, Sk.found_mk, Sk.ends_mk, Sk.unl_mk, Sk.eta, Rf.row_mk, Rf.was_mk, Rf.kept_mk, Rf.km_mk, Rf.tp_mk, Rf.ps_mk, Rf.ln_mk, Rf.lb_mk, Rf.sk_mk, Rf.made_mk, Rf.num_mk, Rf.seen_mk, Rf.ou_mk, Rf.eta, Option.bind_some, Option.toList_some, Option.toList_none, List.cons_append, List.nil_append, ql_0, ql_1, ql_2, ql_3, ql_4, ql_5, ql_6, ql_7, ql_8, ql_9, ql_10, ql_11, ql_12, ql_13, ql_14, ql_15, ql_16, ql_17, ql_18, ql_19, ql_20, ql_21, ql_22, ql_23, ql_24, ql_30, ql_31, ql_32, ql_40, ql_44, ql_45, ql_48, ql_57, ql_58, ql_59, ql_61, ql_63, ql_66, ql_97, ql_99, ql_100, ql_101, ql_110, ql_116, ql_120, ql_122, ql_127, ql_128, ql_255, ql_256, ql_380, ql_400, ql_405, ql_450, ql_1000, ql_65536, ql_1398101, ql_252645135, ql_858993459, ql_1431655765, ql_2000000000, Int.reduceEq, Int.reduceLT, Int.reduceLE, Int.reduceToNat, reduceCtorEq, qI_add, qI_sub, qI_mul, qI_neg, qI_ltT, qI_eqT, qB0, qB1, zb_or, zb_or2, zq_min, zq_max, zq_abs, zq_div, zq_rem, zq_rem2, zt_val, sb_eq, zi_long, zi_in, zl_0, zl_1, zl_2, zl_3, zl_4, zl_5, zl_6, zl_7, zl_30, zl_99, zl_neg, zn_same, zn_zn, if_true, if_false, true_or, or_true, false_or, or_false, not_true_eq_false, not_false_eq_true]
theorem c_cpTar (hj : j < 14) : ab_cp (HH c r g) (pl j + 3) 84 (qI 0) (qI 0) (qI 7) = some (HH (Cl.mk c.net c.tp c.ou c.rd c.pa c.se ((Ce.mk c.ce.found c.ce.ats c.ce.wat c.ce.tal c.ce.cmp ((c.net j).lab) c.ce.agr)) c.mks c.ga c.fn c.fp) r g) := by
  rw [z_cp (w := qI 7) (hc_lab hj) hc_84 rfl (by decide), hs_84]
theorem c_ccmp (hj : j < 14) : ab_M rom (d + 3) 4 [.ref 81, .ref (pl j + 3)] (HH c r g) = some (none, HH (Cl.mk c.net c.tp c.ou c.rd c.pa c.se ((Ce.mk (ceB c.ce).found (ceB c.ce).ats (ceB c.ce).wat (ceB c.ce).tal true ((c.net j).lab) (fun _ => 0))) c.mks c.ga c.fn c.fp) r g) := by
  have hq : ∀ (c' : Cl), ab_fpt (HH c' r g) 81 0 4 (.int (qI 1)) = some (HH (Cl.mk c'.net c'.tp c'.ou c'.rd c'.pa c'.se ((Ce.mk c'.ce.found c'.ce.ats c'.ce.wat c'.ce.tal true c'.ce.tar c'.ce.agr)) c'.mks c'.ga c'.fn c'.fp) r g) := fun c' => hp_81_4 (b := true)
  have hcp : ∀ e : Ce, ab_cp (HH (Cl.mk c.net c.tp c.ou c.rd c.pa c.se e c.mks c.ga c.fn c.fp) r g) (pl j + 3) 84 (qI 0) (qI 0) (qI 7) = some (HH (Cl.mk c.net c.tp c.ou c.rd c.pa c.se ((Ce.mk e.found e.ats e.wat e.tal e.cmp ((c.net j).lab) e.agr)) c.mks c.ga c.fn c.fp) r g) := fun e => c_cpTar (c := (Cl.mk c.net c.tp c.ou c.rd c.pa c.se e c.mks c.ga c.fn c.fp)) hj
  rw [mX0_beginComparing]
  simp (disch := omega) only [sX0_beginComparing_0, sX0_beginComparing_1_0, sX0_beginComparing_1_1, sX0_beginComparing_1_2, sX0_beginComparing_1_3, sX0_beginComparing_4, sX0_beginComparing_5, sX0_beginComparing_6, sX0_beginComparing_9, sX0_beginComparing_10, sX0_beginComparing_11, sX0_beginComparing_12, sX0_beginComparing_15, sX0_beginComparing_16, sX0_beginComparing_18_0, sX0_beginComparing_21, sX0_beginComparing_22, sX0_beginComparing_25, sX0_beginComparing_26_0, sX0_beginComparing_26_1, sX0_beginComparing_26_2, sX0_beginComparing_26_3, sX0_beginComparing_29, c_cbegin, hq, hcp, c_fill85, hf_0_0, hf_0_1, hf_0_2, hf_0_3, hf_0_4, hf_0_5, hf_0_6, hf_0_7, hf_0_8, hf_0_9, hf_0_10, hf_1_0, hf_1_1, hr_2, hl_2, hf_3_0, hf_3_1, hr_4, hl_4, hf_26_0, hf_26_1, hf_26_2, hf_26_3, hf_26_4, hf_26_5, hf_26_6, hf_26_7, hf_27_0, hf_27_1, hf_27_2, hf_27_3, hr_29, hl_29, hf_80_0, hf_80_1, hf_80_2, hf_80_3, hf_80_4, hf_80_5, hf_80_6, hf_80_7, hf_80_8, hf_80_9, hf_80_10, hf_80_11, hf_80_12, hf_80_13, hf_80_14, hf_81_0, hf_81_1, hf_81_2, hf_81_3, hf_81_4, hf_81_5, hf_81_6, hr_82, hl_82, hr_83, hl_83, hr_84, hl_84, hr_85, hl_85, hr_86, hl_86, hr_87, hl_87, hr_88, hl_88, hr_89, hl_89, hr_90, hl_90, hr_91, hl_91, hf_92_0, hf_92_1, hf_92_2, hf_92_3, hf_92_4, hf_92_5, hf_92_6, hf_92_7, hf_92_8, hf_92_9, hf_92_10, hf_92_11, hf_92_12, hf_92_13, hf_92_14, hf_92_15, hf_92_16, hf_92_17, hf_92_18, hf_92_19, hf_92_20, hf_92_21, hf_92_22, hf_92_23, hf_92_24, hf_92_25, hf_92_26, hf_92_27, hf_92_28, hr_93, hl_93, hr_94, hl_94, hr_95, hl_95, hr_96, hl_96, hr_97, hl_97, hr_98, hl_98, hr_99, hl_99, hr_100, hl_100, hr_101, hl_101, hr_102, hl_102, hr_103, hl_103, hr_104, hr_105, hl_105, hf_nn, hf_nm, hf_nlo, hf_nhi, hf_nlab, hf_nbes, hr_lo, hr_hi, hr_lab, hr_bes, hq_slot, hq_past, hp_0_9, hp_0_10, hp_1_1, hw_2, hp_3_1, hw_4, hp_26_0, hp_26_1, hp_26_4, hp_26_5, hp_26_6, hp_26_7, hp_27_0, hp_27_1, hw_29, hp_80_5, hp_80_6, hp_80_7, hp_80_8, hp_80_9, hp_80_10, hp_80_11, hp_80_12, hp_80_13, hp_80_14, hp_81_0, hp_81_2, hp_81_4, hw_82, hw_83, hw_84, hw_85, hw_86, hw_87, hw_88, hw_89, hw_90, hw_91, hp_92_3, hp_92_5, hp_92_6, hp_92_7, hp_92_8, hp_92_9, hp_92_10, hp_92_11, hp_92_12, hp_92_15, hp_92_17, hp_92_18, hp_92_21, hp_92_22, hp_92_23, hp_92_28, hw_93, hw_94, hw_95, hw_96, hw_97, hw_98, hw_99, hw_100, hw_101, hw_102, hw_103, hw_104, hw_105, hw_lo, hw_hi, hw_lab, hw_bes, hp_nn, hp_nm, hi_0, hi_1, hi_3, hi_26, hi_27, hi_80, hi_81, hi_92, hi_n, NR.n_mk, NR.m_mk, NR.lo_mk, NR.hi_mk, NR.lab_mk, NR.bes_mk, NR.eta, Tp.B_mk, Tp.L_mk, Tp.eta, Rd.fn_mk, Rd.fp_mk, Rd.nx_mk, Rd.st_mk, Rd.tk_mk, Rd.vl_mk, Rd.eta, Pa.acts_mk, Pa.new_mk, Pa.sl_mk, Pa.eta, Se.lab_mk, Se.uses_mk, Se.ord_mk, Se.shi_mk, Se.net_mk, Se.kind_mk, Se.top_mk, Se.rep_mk, Se.all_mk, Se.wor_mk, Se.many_mk, Se.any_mk, Se.one_mk, Se.stop_mk, Se.eta, Ce.found_mk, Ce.ats_mk, Ce.wat_mk, Ce.tal_mk, Ce.cmp_mk, Ce.tar_mk, Ce.agr_mk, Ce.eta, Cl.net_mk, Cl.tp_mk, Cl.ou_mk, Cl.rd_mk, Cl.pa_mk, Cl.se_mk, Cl.ce_mk, Cl.mks_mk, Cl.ga_mk, Cl.fn_mk, Cl.fp_mk, Cl.eta, Ps.fk_mk, Ps.fp_mk, Ps.spot_mk, Ps.beg_mk, Ps.tok_mk, Ps.val_mk, Ps.bad_mk, Ps.eta, Ln.A_mk, Ln.B_mk, Ln.many_mk, Ln.eta, Lb.lab_mk, Lb.n_mk, Lb.tree_mk, Lb.eta, Sk.want_mk, Sk.hav_mk, Sk.found_mk, Sk.ends_mk, Sk.unl_mk, Sk.eta, Rf.row_mk, Rf.was_mk, Rf.kept_mk, Rf.km_mk, Rf.tp_mk, Rf.ps_mk, Rf.ln_mk, Rf.lb_mk, Rf.sk_mk, Rf.made_mk, Rf.num_mk, Rf.seen_mk, Rf.ou_mk, Rf.eta, Option.bind_some, Option.toList_some, Option.toList_none, List.cons_append, List.nil_append, ql_0, ql_1, ql_2, ql_3, ql_4, ql_5, ql_6, ql_7, ql_8, ql_9, ql_10, ql_11, ql_12, ql_13, ql_14, ql_15, ql_16, ql_17, ql_18, ql_19, ql_20, ql_21, ql_22, ql_23, ql_24, ql_30, ql_31, ql_32, ql_40, ql_44, ql_45, ql_48, ql_57, ql_58, ql_59, ql_61, ql_63, ql_66, ql_97, ql_99, ql_100, ql_101, ql_110, ql_116, ql_120, ql_122, ql_127, ql_128, ql_255, ql_256, ql_380, ql_400, ql_405, ql_450, ql_1000, ql_65536, ql_1398101, ql_252645135, ql_858993459, ql_1431655765, ql_2000000000, Int.reduceEq, Int.reduceLT, Int.reduceLE, Int.reduceToNat, reduceCtorEq, qI_add, qI_sub, qI_mul, qI_neg, qI_ltT, qI_eqT, qB0, qB1, zb_or, zb_or2, zq_min, zq_max, zq_abs, zq_div, zq_rem, zq_rem2, zt_val, sb_eq, zi_long, zi_in, zl_0, zl_1, zl_2, zl_3, zl_4, zl_5, zl_6, zl_7, zl_30, zl_99, zl_neg, zn_same, zn_zn, if_true, if_false, true_or, or_true, false_or, or_false, not_true_eq_false, not_false_eq_true]
end
/-! what the census has -/
section
variable {n : Int}
theorem fo_found : ∀ (K : List (Int → Int)) (e : Ce), (K.foldl (fun e L => cadd n L e) e).found = e.found + K.length
  | [], e => by show e.found = e.found + ((0 : Nat) : Int); omega
  | L :: K, e => by
    show (K.foldl (fun e L => cadd n L e) (cadd n L e)).found = e.found + ((K.length + 1 : Nat) : Int)
    rw [fo_found K, cadd_found]
    omega
theorem fo_ats {p v : Int} (p0 : 0 ≤ p) (p1 : p < n) (v0 : 0 ≤ v) (v1 : v < 32) : ∀ (K : List (Int → Int)) (e : Ce), (∀ L, L ∈ K → 0 ≤ L p ∧ L p < 32) → (bi ((K.foldl (fun e L => cadd n L e) e).ats p) v = true ↔ bi (e.ats p) v = true ∨ ∃ L, L ∈ K ∧ L p = v)
  | [], e, _ => ⟨Or.inl, fun h => h.elim id (fun ⟨L, h, _⟩ => by cases h)⟩
  | L :: K, e, h => by
    show bi ((K.foldl (fun e L => cadd n L e) (cadd n L e)).ats p) v = true ↔ _
    have hL := h L List.mem_cons_self
    rw [fo_ats p0 p1 v0 v1 K _ (fun M hM => h M (List.mem_cons_of_mem L hM))]
    have e1 : (cadd n L e).ats p = e.ats p ||| sb (L p) := if_pos ⟨p0, p1⟩
    rw [e1, bi_or, Bool.or_eq_true, bi_sb hL.1 hL.2 v0 v1, decide_eq_true_eq]
    constructor
    · rintro ((h1 | h1) | ⟨M, h1, h2⟩)
      · exact Or.inl h1
      · exact Or.inr ⟨L, List.mem_cons_self, h1.symm⟩
      · exact Or.inr ⟨M, List.mem_cons_of_mem L h1, h2⟩
    · rintro (h1 | ⟨M, h1, h2⟩)
      · exact Or.inl (Or.inl h1)
      · rcases List.mem_cons.mp h1 with h3 | h3
        · subst h3
          exact Or.inl (Or.inr h2.symm)
        · exact Or.inr ⟨M, h3, h2⟩
theorem fo_wat : ∀ (K : List (Int → Int)) (e : Ce), (K.foldl (fun e L => cadd n L e) e).wat = e.wat
  | [], e => rfl
  | L :: K, e => by
    show (K.foldl (fun e L => cadd n L e) (cadd n L e)).wat = e.wat
    rw [fo_wat K, cadd_wat]
theorem fo_tal {v : Int} : ∀ (K : List (Int → Int)) (e : Ce), e.wat ≠ -1 → (K.foldl (fun e L => cadd n L e) e).tal v = e.tal v + ((K.countP (fun L => decide (L e.wat = v)) : Nat) : Int)
  | [], e, _ => by show e.tal v = e.tal v + ((0 : Nat) : Int); omega
  | L :: K, e, h => by
    show (K.foldl (fun e L => cadd n L e) (cadd n L e)).tal v = _
    rw [fo_tal K _ (by rw [cadd_wat]; exact h), cadd_wat, List.countP_cons]
    have e1 : (cadd n L e).tal v = if v = L e.wat then e.tal v + 1 else e.tal v := by
      show (if e.wat = -1 then e.tal else zu e.tal (L e.wat) (e.tal (L e.wat) + 1)) v = _
      rw [if_neg h]
      unfold zu
      by_cases a : v = L e.wat
      · rw [if_pos a, if_pos a, a]
      · rw [if_neg a, if_neg a]
    rw [e1]
    by_cases a : v = L e.wat
    · rw [if_pos a, if_pos (decide_eq_true a.symm)]
      omega
    · rw [if_neg a, if_neg (by simp; exact fun q => a q.symm)]
      omega
theorem fo_cmp : ∀ (K : List (Int → Int)) (e : Ce), (K.foldl (fun e L => cadd n L e) e).cmp = e.cmp ∧ (K.foldl (fun e L => cadd n L e) e).tar = e.tar
  | [], e => ⟨rfl, rfl⟩
  | L :: K, e => fo_cmp K (cadd n L e)
theorem fo_agr {v : Int} : ∀ (K : List (Int → Int)) (e : Ce), e.cmp = true → (K.foldl (fun e L => cadd n L e) e).agr v = e.agr v + ((K.countP (fun L => decide (smI n L e.tar = v)) : Nat) : Int)
  | [], e, _ => by show e.agr v = e.agr v + ((0 : Nat) : Int); omega
  | L :: K, e, h => by
    show (K.foldl (fun e L => cadd n L e) (cadd n L e)).agr v = _
    rw [fo_agr K (cadd n L e) h, List.countP_cons]
    have e0 : (cadd n L e).tar = e.tar := rfl
    have e1 : (cadd n L e).agr v = if v = smI n L e.tar then e.agr v + 1 else e.agr v := by
      show (if e.cmp = true then zu e.agr (smI n L e.tar) (e.agr (smI n L e.tar) + 1) else e.agr) v = _
      rw [if_pos h]
      unfold zu
      by_cases a : v = smI n L e.tar
      · rw [if_pos a, if_pos a, a]
      · rw [if_neg a, if_neg a]
    rw [e1, e0]
    by_cases a : v = smI n L e.tar
    · rw [if_pos a, if_pos (decide_eq_true a.symm)]
      omega
    · rw [if_neg a, if_neg (by simp; exact fun q => a q.symm)]
      omega
end
