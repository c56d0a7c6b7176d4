/-! THE DRAFT; SEEKING UP TO SO MANY -/
theorem z_runX {R W : Type} (p : Int → Bool) (X E : Int → W → R) {n : Int} : ∀ {a : Int}, a ≤ n → (∀ i w, a ≤ i → i < n → ∃ w', X i w = if p i = true then E i w' else X (i + 1) w') → ∀ w, ∃ w', X a w = match zfind p a (n - a).toNat with
    | some z => E z w'
    | none => X n w' := by
  intro a hn
  obtain ⟨k, hk⟩ : ∃ k : Nat, n = a + k := ⟨(n - a).toNat, by omega⟩
  induction k generalizing a with
  | zero =>
    intro _ w
    have e : a = n := by omega
    subst e
    refine ⟨w, ?_⟩
    rw [show (a - a).toNat = 0 by omega]
    rfl
  | succ k ih =>
    intro h1 w
    have e : (n - a).toNat = (n - (a + 1)).toNat + 1 := by omega
    obtain ⟨w1, hw⟩ := h1 a w (by omega) (by omega)
    rw [e]
    unfold zfind
    by_cases hp : p a = true
    · rw [if_pos hp] at hw ⊢
      exact ⟨w1, hw⟩
    · rw [if_neg hp] at hw ⊢
      rw [hw]
      exact ih (by omega) (by omega) (fun i w h3 h4 => h1 i w (by omega) h4) w1
def nfree (N : NR) : NR := (NR.mk N.n N.m N.lo N.hi (fun _ => -1) N.bes)
theorem GN.free {N : NR} (G : GN N) : GN (nfree N) := G.relab (fun _ => by omega) (fun _ _ _ _ => rfl)
/-- the class with another draft, search and census -/
def cd (c : Cl) (F : NR) (s : Se) (e : Ce) : Cl := (Cl.mk (zn c.net 3 F) c.tp c.ou c.rd c.pa s e c.mks c.ga c.fn c.fp)
theorem cd_eta (c : Cl) : cd c (c.net 3) c.se c.ce = c := by
  unfold cd
  rw [zn_id, Cl.eta]
theorem cd_net {c : Cl} {F : NR} {s : Se} {e : Ce} {j : Nat} (h : j ≠ 3) : (cd c F s e).net j = c.net j := zn_ne _ _ h
theorem cd_net3 (c : Cl) (F : NR) (s : Se) (e : Ce) : (cd c F s e).net 3 = F := zn_same c.net 3 F
theorem cd_se (c : Cl) (F : NR) (s : Se) (e : Ce) : (cd c F s e).se = s := rfl
theorem cd_ce (c : Cl) (F : NR) (s : Se) (e : Ce) : (cd c F s e).ce = e := rfl
theorem Inv.cd {c : Cl} {r : Rf} (I : Inv c r) {F : NR} {s : Se} (e : Ce) (W : WN F) (hs : s.net < 14) : Inv (cd c F s e) r :=
  I.upd (fun j _ hj => zn_ne _ _ hj) (by show WN (zn c.net 3 F 3); rw [zn_same]; exact W) rfl hs (fun _ _ _ => rfl) rfl rfl I.tp I.ou I.fn I.fp
section
variable {rom : List (List Int32)} {c : Cl} {r : Rf} {g : ab_H} {d : Nat} {F : NR} {s : Se} {e : Ce}
theorem cd_copy {x : Nat} (hx : x < 3) : ab_M rom (d + 1) 17 [.ref (pl 3), .ref (pl x)] (HH (cd c F s e) r g) = some (none, HH (cd c (c.net x) s e) r g) := by
  have := n_copyOf (rom := rom) (c := cd c F s e) (r := r) (g := g) (d := d) (j := 3) (k := x) (by omega) (by omega) (by omega)
  rw [cd_net (by omega)] at this
  rw [this]
  unfold cd
  simp only [NR.n_mk, NR.m_mk, NR.lo_mk, NR.hi_mk, NR.lab_mk, NR.bes_mk, NR.eta, Tp.B_mk, Tp.L_mk, Tp.eta, Rd.fn_mk, Rd.fp_mk, Rd.nx_mk, Rd.st_mk, Rd.tk_mk, Rd.vl_mk, Rd.eta, Pa.acts_mk, Pa.new_mk, Pa.sl_mk, Pa.eta, Se.lab_mk, Se.uses_mk, Se.ord_mk, Se.shi_mk, Se.net_mk, Se.kind_mk, Se.top_mk, Se.rep_mk, Se.all_mk, Se.wor_mk, Se.many_mk, Se.any_mk, Se.one_mk, Se.stop_mk, Se.eta, Ce.found_mk, Ce.ats_mk, Ce.wat_mk, Ce.tal_mk, Ce.cmp_mk, Ce.tar_mk, Ce.agr_mk, Ce.eta, Cl.net_mk, Cl.tp_mk, Cl.ou_mk, Cl.rd_mk, Cl.pa_mk, Cl.se_mk, Cl.ce_mk, Cl.mks_mk, Cl.ga_mk, Cl.fn_mk, Cl.fp_mk, Cl.eta, Ps.fk_mk, Ps.fp_mk, Ps.spot_mk, Ps.beg_mk, Ps.tok_mk, Ps.val_mk, Ps.bad_mk, Ps.eta, Ln.A_mk, Ln.B_mk, Ln.many_mk, Ln.eta, Lb.lab_mk, Lb.n_mk, Lb.tree_mk, Lb.eta, Sk.want_mk, Sk.hav_mk, Sk.found_mk, Sk.ends_mk, Sk.unl_mk, Sk.eta, Rf.row_mk, Rf.was_mk, Rf.kept_mk, Rf.km_mk, Rf.tp_mk, Rf.ps_mk, Rf.ln_mk, Rf.lb_mk, Rf.sk_mk, Rf.made_mk, Rf.num_mk, Rf.seen_mk, Rf.ou_mk, Rf.eta, zn_zn]
theorem cd_clear : ab_M rom (d + 2) 16 [.ref (pl 3)] (HH (cd c F s e) r g) = some (none, HH (cd c (nfree F) s e) r g) := by
  have := n_clearLabels (rom := rom) (c := cd c F s e) (r := r) (g := g) (d := d) (j := 3) (by omega)
  rw [cd_net3] at this
  rw [this]
  unfold cd nfree
  simp only [NR.n_mk, NR.m_mk, NR.lo_mk, NR.hi_mk, NR.lab_mk, NR.bes_mk, NR.eta, Tp.B_mk, Tp.L_mk, Tp.eta, Rd.fn_mk, Rd.fp_mk, Rd.nx_mk, Rd.st_mk, Rd.tk_mk, Rd.vl_mk, Rd.eta, Pa.acts_mk, Pa.new_mk, Pa.sl_mk, Pa.eta, Se.lab_mk, Se.uses_mk, Se.ord_mk, Se.shi_mk, Se.net_mk, Se.kind_mk, Se.top_mk, Se.rep_mk, Se.all_mk, Se.wor_mk, Se.many_mk, Se.any_mk, Se.one_mk, Se.stop_mk, Se.eta, Ce.found_mk, Ce.ats_mk, Ce.wat_mk, Ce.tal_mk, Ce.cmp_mk, Ce.tar_mk, Ce.agr_mk, Ce.eta, Cl.net_mk, Cl.tp_mk, Cl.ou_mk, Cl.rd_mk, Cl.pa_mk, Cl.se_mk, Cl.ce_mk, Cl.mks_mk, Cl.ga_mk, Cl.fn_mk, Cl.fp_mk, Cl.eta, Ps.fk_mk, Ps.fp_mk, Ps.spot_mk, Ps.beg_mk, Ps.tok_mk, Ps.val_mk, Ps.bad_mk, Ps.eta, Ln.A_mk, Ln.B_mk, Ln.many_mk, Ln.eta, Lb.lab_mk, Lb.n_mk, Lb.tree_mk, Lb.eta, Sk.want_mk, Sk.hav_mk, Sk.found_mk, Sk.ends_mk, Sk.unl_mk, Sk.eta, Rf.row_mk, Rf.was_mk, Rf.kept_mk, Rf.km_mk, Rf.tp_mk, Rf.ps_mk, Rf.ln_mk, Rf.lb_mk, Rf.sk_mk, Rf.made_mk, Rf.num_mk, Rf.seen_mk, Rf.ou_mk, Rf.eta, zn_zn]
theorem cd_rem {k : Int} (W : WN F) (k0 : 0 ≤ k) (k1 : k < F.m) (hab : F.lo k ≠ F.hi k) : ab_M rom (d + 1) 31 [.ref (pl 3), .int (qI k)] (HH (cd c F s e) r g) = some (none, HH (cd c (nremove F k) s e) r g) := by
  have e3 := cd_net3 c F s e
  have := n_removeLine (rom := rom) (c := cd c F s e) (r := r) (g := g) (d := d) (j := 3) (by omega) (by rw [e3]; exact W) k0 (by rw [e3]; exact k1) (by rw [e3]; exact hab)
  rw [e3] at this
  rw [this]
  unfold cd
  simp only [NR.n_mk, NR.m_mk, NR.lo_mk, NR.hi_mk, NR.lab_mk, NR.bes_mk, NR.eta, Tp.B_mk, Tp.L_mk, Tp.eta, Rd.fn_mk, Rd.fp_mk, Rd.nx_mk, Rd.st_mk, Rd.tk_mk, Rd.vl_mk, Rd.eta, Pa.acts_mk, Pa.new_mk, Pa.sl_mk, Pa.eta, Se.lab_mk, Se.uses_mk, Se.ord_mk, Se.shi_mk, Se.net_mk, Se.kind_mk, Se.top_mk, Se.rep_mk, Se.all_mk, Se.wor_mk, Se.many_mk, Se.any_mk, Se.one_mk, Se.stop_mk, Se.eta, Ce.found_mk, Ce.ats_mk, Ce.wat_mk, Ce.tal_mk, Ce.cmp_mk, Ce.tar_mk, Ce.agr_mk, Ce.eta, Cl.net_mk, Cl.tp_mk, Cl.ou_mk, Cl.rd_mk, Cl.pa_mk, Cl.se_mk, Cl.ce_mk, Cl.mks_mk, Cl.ga_mk, Cl.fn_mk, Cl.fp_mk, Cl.eta, Ps.fk_mk, Ps.fp_mk, Ps.spot_mk, Ps.beg_mk, Ps.tok_mk, Ps.val_mk, Ps.bad_mk, Ps.eta, Ln.A_mk, Ln.B_mk, Ln.many_mk, Ln.eta, Lb.lab_mk, Lb.n_mk, Lb.tree_mk, Lb.eta, Sk.want_mk, Sk.hav_mk, Sk.found_mk, Sk.ends_mk, Sk.unl_mk, Sk.eta, Rf.row_mk, Rf.was_mk, Rf.kept_mk, Rf.km_mk, Rf.tp_mk, Rf.ps_mk, Rf.ln_mk, Rf.lb_mk, Rf.sk_mk, Rf.made_mk, Rf.num_mk, Rf.seen_mk, Rf.ou_mk, Rf.eta, zn_zn]
theorem cd_begin : ab_M rom (d + 2) 3 [.ref 81] (HH (cd c F s e) r g) = some (none, HH (cd c F s (ceB e)) r g) := c_cbegin
theorem cd_watch {p : Int} : ab_M rom (d + 3) 5 [.ref 81, .int (qI p)] (HH (cd c F s e) r g) = some (none, HH (cd c F s (Ce.mk (ceB e).found (ceB e).ats p (fun _ => 0) (ceB e).cmp (ceB e).tar (ceB e).agr)) r g) := c_cwatch
theorem cd_cmp {x : Nat} (hx : x < 3) : ab_M rom (d + 3) 4 [.ref 81, .ref (pl x + 3)] (HH (cd c F s e) r g) = some (none, HH (cd c F s (Ce.mk (ceB e).found (ceB e).ats (ceB e).wat (ceB e).tal true ((c.net x).lab) (fun _ => 0))) r g) := by
  have := c_ccmp (rom := rom) (c := cd c F s e) (r := r) (g := g) (d := d) (j := x) (by omega)
  rw [cd_net (by omega)] at this
  exact this
/-- all completions of the draft -/
theorem cd_run {k : Int} (G : GN F) (hn : 0 < F.n) (k0 : 0 ≤ k) (k4 : k ≤ 4) (hs : s.net < 14) (fe : 0 ≤ e.found) (we : -1 ≤ e.wat ∧ e.wat < F.n) : ∃ (s' : Se) (K : List (Int → Int)), s'.net < 14 ∧ (K.map (lst F.n)).Nodup ∧ (∀ x, x ∈ K.map (lst F.n) ↔ CX F k x) ∧ ab_M rom (d + 60) 71 [.ref 80, .ref (pl 3), .int (qI k), .int (qI 0)] (HH (cd c F s e) r g) = some (none, HH (cd c F s' (K.foldl (fun e L => cadd F.n L e) e)) r g) := by
  obtain ⟨s', e', st, h1, h2, h3⟩ := c_run (rom := rom) (c := cd c F s e) (r := r) (g := g) (d := d) (j := 3) (N := F) (k := k) (one := false) (cd_net3 c F s e) (by omega) hs G hn k0 k4 fe we
  obtain ⟨-, h | ⟨-, -, K, k1, k2, k3⟩⟩ := h3
  · cases h.1
  · subst k3
    exact ⟨s', K, h1, k1, k2, h2⟩
/-- whether there is one -/
theorem cd_run1 {k : Int} (G : GN F) (hn : 0 < F.n) (k0 : 0 ≤ k) (k4 : k ≤ 4) (hs : s.net < 14) : ∃ (s' : Se) (e' : Ce), s'.net < 14 ∧ ab_M rom (d + 60) 71 [.ref 80, .ref (pl 3), .int (qI k), .int (qI 1)] (HH (cd c F s (ceB e)) r g) = some (none, HH (cd c F s' e') r g) ∧ ((0 < e'.found ∧ e'.found ≤ 10 ∧ ∃ x, CX F k x) ∨ (e'.found = 0 ∧ ∀ x, ¬ CX F k x)) := by
  obtain ⟨s', e', st, h1, h2, h3⟩ := c_run (rom := rom) (c := cd c F s (ceB e)) (r := r) (g := g) (d := d) (j := 3) (N := F) (k := k) (one := true) (cd_net3 c F s (ceB e)) (by omega) hs G hn k0 k4 (Int.le_refl _) ⟨Int.le_refl _, by show (-1 : Int) < F.n; omega⟩
  refine ⟨s', e', h1, h2, ?_⟩
  have z : ((cd c F s (ceB e)).ce).found = 0 := rfl
  obtain ⟨-, ⟨-, ⟨-, b, x, hx⟩ | ⟨-, b, hx⟩⟩ | ⟨h, -⟩⟩ := h3
  · rw [z] at b
    exact Or.inl ⟨b.1, by omega, x, hx⟩
  · refine Or.inr ⟨?_, hx⟩
    rw [b]
    exact z
  · cases h
end
section
variable {N : NR} {k : Int}
theorem gfo_at : ∀ (A : List (Int → Int)) (s : Sk), s.found < s.ends → (gfo N k s A).2 = A[(s.ends - s.found - 1).toNat]?
  | [], s, _ => rfl
  | L :: A, s, h => by
    rw [gfo_c]
    by_cases h1 : s.found + 1 = s.ends
    · rw [if_pos h1, show (s.ends - s.found - 1).toNat = 0 by omega]
      rfl
    · rw [if_neg h1]
      have h2 := gfo_at A (gone N k s L) (by show s.found + 1 < s.ends; omega)
      have e1 : (gone N k s L).found = s.found + 1 := rfl
      have e2 : (gone N k s L).ends = s.ends := rfl
      rw [e1, e2] at h2
      rw [h2, show (s.ends - s.found - 1).toNat = (s.ends - (s.found + 1) - 1).toNat + 1 by omega]
      rfl
end
section
variable {rom : List (List Int32)} {c : Cl} {r : Rf} {g : ab_H} {d : Nat} {N : NR} {k x i : Int}
/-- the reference seeks the i-th -/
theorem m_seeksI (hs0 : 0 ≤ x) (hs3 : x < 3) (R : RN r x N) (G : GN N) (n1 : 1 ≤ N.n) (k0 : 0 ≤ k) (k4 : k ≤ 4) (u : Int32) (i0 : 0 ≤ i) (i1 : i < 2147483647) : ∃ L lb sk, lb.n = N.n ∧ (∀ M, (enu N (wnt N u) k N.n.toNat r.lb.lab)[i.toNat]? = some M → lb.lab = M) ∧ ab_M rom (d + 14) 221 [.ref 92, .int (qI x), .int (qI k), .int u, .int (qI (i + 1))] (HH c r g) = some (some (.int (qB ((enu N (wnt N u) k N.n.toNat r.lb.lab)[i.toNat]?).isSome)), HH c (Rf.mk r.row r.was r.kept r.km r.tp r.ps L lb sk r.made r.num r.seen r.ou) g) := by
  obtain ⟨L, hL, I⟩ := m_seeks (rom := rom) (c := c) (g := g) (d := d) (e := i + 1) hs0 hs3 R G n1 k0 k4 u (by omega) (by omega)
  have ga := gfo_at (N := N) (k := k) (enu N (wnt N u) k N.n.toNat r.lb.lab) (skB N u r.sk N.n (i + 1)) (by show (0 : Int) < i + 1; omega)
  have e1 : (skB N u r.sk N.n (i + 1)).found = 0 := rfl
  have e2 : (skB N u r.sk N.n (i + 1)).ends = i + 1 := rfl
  rw [e1, e2, show i + 1 - 0 - 1 = i by omega] at ga
  rw [← ga]
  unfold GE at I
  cases hg : (gfo N k (skB N u r.sk N.n (i + 1)) (enu N (wnt N u) k N.n.toNat r.lb.lab)).2 with
  | none =>
    rw [hg] at I
    obtain ⟨l', _, h⟩ := I
    exact ⟨L, Lb.mk l' N.n (isTr N), _, rfl, fun M h => (by cases h), h⟩
  | some M =>
    rw [hg] at I
    exact ⟨L, Lb.mk M N.n (isTr N), _, rfl, fun M' h => Option.some.inj h, I⟩
end
