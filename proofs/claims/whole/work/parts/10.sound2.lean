section ABU
variable {Sx : ab_SX} {p : Program} {l : Launch} {e : Env} {R : Room} {s : State} {m : MethodId} {args : Array Value} {below : List Frame} {meth : Method} {c : Code} {Q : State → Prop}
variable {cc : ByteArray} {cn rt nL c0 z0 : Nat} {D : va_G} {cy : Nat → ClassId} {B : Nat} {rv : Nat → Nat} {rom : List (List Int32)} {hp hp' : ab_H} {i : Instr} {len pc pc' : Nat} {ls st ls' st' : List Value}
theorem ab_vw_lt {ci : Nat} (h : ci < 8) : ∃ C T N, ab_vw[ci]? = some (C, T, N) ∧ ab_T ci = T ∧ ab_N ci = N ∧ ((ab_vw[ci]?).map (fun v => v.1)).getD "" = C ∧ ab_cl ci = C := by
  match ci, h with
  | 0, _ => exact ⟨_, _, _, rfl, rfl, rfl, rfl, rfl⟩
  | 1, _ => exact ⟨_, _, _, rfl, rfl, rfl, rfl, rfl⟩
  | 2, _ => exact ⟨_, _, _, rfl, rfl, rfl, rfl, rfl⟩
  | 3, _ => exact ⟨_, _, _, rfl, rfl, rfl, rfl, rfl⟩
  | 4, _ => exact ⟨_, _, _, rfl, rfl, rfl, rfl, rfl⟩
  | 5, _ => exact ⟨_, _, _, rfl, rfl, rfl, rfl, rfl⟩
  | 6, _ => exact ⟨_, _, _, rfl, rfl, rfl, rfl, rfl⟩
  | 7, _ => exact ⟨_, _, _, rfl, rfl, rfl, rfl, rfl⟩
theorem ab_f_ok {k0 ci kf fin tc : Nat} (h : ab_lk ab_fT cn k0 = some (ci, kf, fin, tc)) : ∃ (C : String) (T : u_T) (N : Nat) (ty0 : Nat → FieldType), ab_vw[ci]? = some (C, T, N) ∧ kf < N ∧ Jvm.Cond.fieldLink (ab_cl cn) k0 (T kf).1 (T kf).2.1 (T kf).2.2.1 ∈ ab_W ∧ (T kf).2.2.2 = (fin == 1) ∧ fin ≤ 1 ∧ (∀ k, k < N → parseFieldDescriptor (T k).2.2.1 = some (ty0 k)) ∧ (∀ a, a < N → ∀ b, b < N → a ≠ b → (T a).2.1 ≠ (T b).2.1) ∧ (∀ w ∈ u_ws C T N, w ∈ ab_W) ∧ ab_tco (ty0 kf) tc = true ∧ (fin = 1 → (T kf).1 = C) ∧ ab_cl ci = C := by
  obtain ⟨is, hok⟩ := ab_fT_ok _ (ab_lk_mem h)
  simp only [ab_fok, Bool.and_eq_true, decide_eq_true_eq] at hok
  obtain ⟨⟨⟨⟨⟨⟨h1, h2⟩, h3⟩, h4⟩, h5⟩, h6⟩, h7⟩ := hok
  obtain ⟨C, T, N, hv, eT, eN, eC, ecl⟩ := ab_vw_lt h6
  obtain ⟨ty0, g1, g2, g3⟩ := ab_vw_ok hv
  rw [eT] at h1 h3 h5 h7
  rw [eN] at h2
  rw [eC] at h7
  refine ⟨C, T, N, ty0, hv, h2, ab_ats_mem h1 _ List.mem_cons_self, by simpa using h3, h4, g1, g2, g3, ?_, ?_, ecl⟩
  · rw [g1 kf h2] at h5
    exact h5
  · intro hf
    subst hf
    simpa using h7
theorem ab_newad {q : Nat} {e0 : va_E} {H1 : Heap} (hP : va_P D ab_vw (ab_w B rv cy hp ++ [(q, e0)]) H1) (hD : va_D (ab_A B) (ab_w B rv cy hp ++ [(q, e0)])) (hz : H1.size ≤ B + hp.length + 1) : q = B + hp.length := by
  have hl : (ab_w B rv cy hp ++ [(q, e0)])[hp.length]? = some (q, e0) := by
    rw [List.getElem?_append_right (by rw [ab_w_len]; exact Nat.le_refl _), ab_w_len, Nat.sub_self]
    rfl
  have h1 : q < H1.size := (hP _ _ hl).lt
  have h2 : B ≤ q := hD.2 _ _ hl
  by_cases h3 : q < B + hp.length
  · have hk : q - B < hp.length := by omega
    have h4 : (ab_w B rv cy hp ++ [(q, e0)])[q - B]? = some (B + (q - B), ab_e B rv cy hp[q - B]) := by
      rw [List.getElem?_append_left (by rw [ab_w_len]; exact hk)]
      exact ab_w_at (List.getElem?_eq_getElem hk)
    have := hD.1 _ _ _ _ h4 hl (by show B + (q - B) = q; omega)
    omega
  · omega
theorem ab_rep0 (N : Nat) : (fun j => (List.replicate N (0 : Int32)).getD j 0) = fun _ => 0 := by
  funext j
  rw [List.getD_eq_getElem?_getD, List.getElem?_replicate]
  split <;> rfl
theorem ab_repn (N : Nat) : (fun j => ((List.replicate N (none : Option Nat)).getD j none).map (ab_ad B rv)) = fun _ => none := by
  funext j
  rw [List.getD_eq_getElem?_getD, List.getElem?_replicate]
  split <;> rfl
set_option maxHeartbeats 4000000 in
/-- fields, rows, what is made -/
theorem ab_k2 (hX : ab_SxOK Sx) (X : ab_Cx Sx p R s m args meth c cc cn rt nL c0 D cy B rv rom) (hd : decode cc pc = .ok (i, len)) (hs : ab_s rom cn rt i len pc ls st hp = some (.inl (pc', ls', st', hp')))
    (hi : ab_kd i = 2)
    (hr : hp'.length ≤ R.cells + c0) (hz : ab_szs hp' ≤ R.slots + z0)
    (k : ab_Go p l e R s m args below meth c Q D cy B rv nL c0 z0 pc' ls' st' hp') : ab_Go p l e R s m args below meth c Q D cy B rv nL c0 z0 pc ls st hp := by
  obtain ⟨hx, hb, hml, hown, hts, hin, hK, hro, hsz, hfr, hlo⟩ := X
  have hA : ∀ q, s.heap.size ≤ q → ab_A B q := fun q hq => by
    show B ≤ q
    omega
  cases i
  case getfield k0 =>
    simp only [ab_s] at hs
    replace hs := ab_if hs
    obtain ⟨rfl, hs⟩ := hs
    obtain ⟨ci, kf, fin, tc, a, st2, fs, v, hF, rfl, ha, hv, h2⟩ := ab_gf_inv hs
    cases h2
    obtain ⟨C, T, N, ty0, hc, hk, hl, -, -, -, -, hw, -, -, -⟩ := ab_f_ok hF
    intro H locs cells slots als a1 a2 a3 a4 a5 a6
    have kk := k H locs cells slots als a1 a2 a3 a4 a5 a6
    simp only [List.map_cons, ab_v] at kk ⊢
    rw [ab_ad_lt ha a2]
    exact va_get (D := D) (ci := ci) (v := ab_v B rv v) (C := C) (T := T) (N := N) hx hb hts hw hown hK a1 a (ab_w_at ha) hc kf hk (hts _ hl) (fun _ h => h) (by rw [List.getElem?_map, hv]; rfl) hd kk
  case putfield k0 =>
    simp only [ab_s] at hs
    replace hs := ab_if hs
    obtain ⟨rfl, hs⟩ := hs
    obtain ⟨ci, kf, fin, tc, a, st2, fs, v, hF, rfl, ha, hkl, hfi, hft, h2⟩ := ab_pf_inv hs
    cases h2
    obtain ⟨C, T, N, ty0, hc, hk, hl, hfin, hf1, hty, hnm, hw, htc, hfC, hcl⟩ := ab_f_ok hF
    intro H locs cells slots als a1 a2 a3 a4 a5 a6
    obtain ⟨hn, hfit⟩ := ab_fits (B := B) (rv := rv) htc hft
    have e2 : ab_e B rv cy (.inr (.inr (ci, fs.set kf v))) = .inr (ci, (fs.map (ab_v B rv)).set kf (ab_v B rv v)) := by simp only [ab_e, ab_vset]
    have go : ∀ (H1 : Heap) (locs1 : List Loc), va_P D ab_vw ((ab_w B rv cy hp).set a (B + a, .inr (ci, (fs.map (ab_v B rv)).set kf (ab_v B rv v)))) H1 → va_D (ab_A B) ((ab_w B rv cy hp).set a (B + a, .inr (ci, (fs.map (ab_v B rv)).set kf (ab_v B rv v)))) → va_S (ab_A B) s.heap H1 locs1 → W p l e R s m args below meth c H1 locs1 cells slots Q (F0 m (pc + 3) als (st'.map (ab_v B rv))) := fun H1 locs1 b1 _ b3 =>
      k H1 locs1 cells slots als (by rw [← ab_w_set (ab_lt ha), e2]; exact b1) (by rw [List.length_set]; exact a2) b3 a4 (by rw [List.length_set]; exact a5) (by rw [ab_szs_set ha (by simp [ab_sz])]; exact a6)
    simp only [List.map_cons, ab_v]
    rw [ab_ad_lt ha a2]
    rcases hfi with h0 | ⟨h3, h4⟩
    · subst h0
      exact va_put (D := D) (ci := ci) (v := ab_v B rv v) (ty := ty0 kf) (C := C) (T := T) (N := N) hx hb hts hw ty0 hty hnm hown hK a1 ab_wD a3 a (ab_w_at ha) hc kf hk (hts _ hl) (fun _ h => h) (by rw [hfin]; rfl) (hty kf hk) hn hfit (by rw [List.length_map]; exact hkl) hd go
    · by_cases h0 : fin = 0
      · subst h0
        exact va_put (D := D) (ci := ci) (v := ab_v B rv v) (ty := ty0 kf) (C := C) (T := T) (N := N) hx hb hts hw ty0 hty hnm hown hK a1 ab_wD a3 a (ab_w_at ha) hc kf hk (hts _ hl) (fun _ h => h) (by rw [hfin]; rfl) (hty kf hk) hn hfit (by rw [List.length_map]; exact hkl) hd go
      · have h1 : fin = 1 := by omega
        exact va_putF (D := D) (ci := ci) (v := ab_v B rv v) (ty := ty0 kf) (C := C) (T := T) (N := N) hx hb hts hw ty0 hty hnm hown hK a1 ab_wD a3 a (ab_w_at ha) hc kf hk (hts _ hl) (fun _ h => h) (by rw [hfin, h1]; rfl) (hin h3) (by rw [h4, hcl]; exact hfC h1) (hty kf hk) hn hfit (by rw [List.length_map]; exact hkl) hd go
  case getstatic k0 =>
    simp only [ab_s, ab_go] at hs
    replace hs := ab_if hs
    obtain ⟨rfl, hs⟩ := hs
    split at hs
    · rename_i j hj
      cases hs
      obtain ⟨is, hok⟩ := ab_sT_ok _ (ab_lk_mem hj)
      simp only [ab_sok, Bool.and_eq_true, decide_eq_true_eq] at hok
      intro H locs cells slots als a1 a2 a3 a4 a5 a6
      have kk := k H locs cells slots als a1 a2 a3 a4 a5 a6
      simp only [List.map_cons, ab_v, ab_ad_ro] at kk
      exact va_gets (ref := "FairLabels$Maker") hx hb (hro.2.1 j hok.1.2 hok.2) a3 hown (hts _ (ab_ats_mem hok.1.1 _ List.mem_cons_self)) (fun _ h => h) hd kk
    · cases hs
  case iaload =>
    simp only [ab_s] at hs
    replace hs := ab_if hs
    obtain ⟨rfl, hs⟩ := hs
    obtain ⟨i0, a, st2, xs, v, rfl, ha, h0, hv, h2⟩ := ab_xld_inv hs
    cases h2
    intro H locs cells slots als a1 a2 a3 a4 a5 a6
    have kk := k H locs cells slots als a1 a2 a3 a4 a5 a6
    have hlt : i0.toNatClampNeg < xs.length := (List.getElem?_eq_some_iff.mp hv).1
    have ev : xs.getD i0.toNatClampNeg 0 = v := by rw [List.getD_eq_getElem?_getD, hv]; rfl
    simp only [List.map_cons, ab_v] at kk ⊢
    rw [← ev] at kk
    rcases ab_arr_inv ha with ha | ⟨-, j, zj, za⟩
    · rw [ab_ad_lt ha a2]
      exact va_iald (f := fun j => xs.getD j 0) hx hb hK a1 a 0 (ab_w_at ha) rfl (ab_in_of h0 hlt) hd kk
    · subst zj
      rw [ab_ad_ro]
      exact va_ti (v := .int (xs.getD i0.toNatClampNeg 0)) hx hb (hro.1 j xs za) a3 (ab_in_of h0 hlt) rfl hd kk
  case baload =>
    simp only [ab_s] at hs
    replace hs := ab_if hs
    obtain ⟨rfl, hs⟩ := hs
    obtain ⟨i0, a, st2, xs, v, rfl, ha, h0, hv, h2⟩ := ab_xld_inv hs
    cases h2
    intro H locs cells slots als a1 a2 a3 a4 a5 a6
    have kk := k H locs cells slots als a1 a2 a3 a4 a5 a6
    have hlt : i0.toNatClampNeg < xs.length := (List.getElem?_eq_some_iff.mp hv).1
    have ev : xs.getD i0.toNatClampNeg 0 = v := by rw [List.getD_eq_getElem?_getD, hv]; rfl
    simp only [List.map_cons, ab_v] at kk ⊢
    rw [← ev] at kk
    rcases ab_arr_inv ha with ha | ⟨h9, -⟩
    · rw [ab_ad_lt ha a2]
      exact va_zald (f := fun j => xs.getD j 0) hx hb hK a1 a 1 (ab_w_at ha) rfl (ab_in_of h0 hlt) hd kk
    · cases h9
  case iastore =>
    simp only [ab_s] at hs
    replace hs := ab_if hs
    obtain ⟨rfl, hs⟩ := hs
    obtain ⟨v, i0, a, st2, xs, rfl, ha, h0, hlt, hft, h2⟩ := ab_xst_inv hs
    cases h2
    intro H locs cells slots als a1 a2 a3 a4 a5 a6
    simp only [List.map_cons, ab_v]
    rw [ab_ad_lt ha a2]
    have e2 : ab_e B rv cy (.inl (0, xs.set i0.toNatClampNeg v)) = .inl (cy 0, xs.length, .inl (upd (fun j => xs.getD j 0) i0.toNatClampNeg v)) := by simp only [ab_e, List.length_set, ab_fset xs _ v hlt]
    exact va_iast (f := fun j => xs.getD j 0) hx hb hK a1 ab_wD a3 a 0 (ab_w_at ha) rfl (ab_in_of h0 hlt) hd (fun H1 locs1 b1 _ b3 => k H1 locs1 cells slots als (by rw [← ab_w_set (ab_lt ha), e2]; exact b1) (by rw [List.length_set]; exact a2) b3 a4 (by rw [List.length_set]; exact a5) (by rw [ab_szs_set ha (by simp [ab_sz])]; exact a6))
  case bastore =>
    simp only [ab_s] at hs
    replace hs := ab_if hs
    obtain ⟨rfl, hs⟩ := hs
    obtain ⟨v, i0, a, st2, xs, rfl, ha, h0, hlt, hft, h2⟩ := ab_xst_inv hs
    cases h2
    intro H locs cells slots als a1 a2 a3 a4 a5 a6
    simp only [List.map_cons, ab_v]
    rw [ab_ad_lt ha a2]
    have hv : vp_nar .boolean v = v := by
      have hx9 : v = 0 ∨ v = 1 := by simpa [ab_ft] using hft
      rcases hx9 with e | e <;> subst e <;> simp [vp_nar, narrow]
    have e2 : ab_e B rv cy (.inl (1, xs.set i0.toNatClampNeg v)) = .inl (cy 1, xs.length, .inl (upd (fun j => xs.getD j 0) i0.toNatClampNeg (vp_nar .boolean v))) := by rw [hv]; simp only [ab_e, List.length_set, ab_fset xs _ v hlt]
    exact va_zast (f := fun j => xs.getD j 0) hx hb hK a1 ab_wD a3 a 1 (ab_w_at ha) rfl (ab_in_of h0 hlt) hd (fun H1 locs1 b1 _ b3 => k H1 locs1 cells slots als (by rw [← ab_w_set (ab_lt ha), e2]; exact b1) (by rw [List.length_set]; exact a2) b3 a4 (by rw [List.length_set]; exact a5) (by rw [ab_szs_set ha (by simp [ab_sz])]; exact a6))
  case aaload =>
    simp only [ab_s] at hs
    replace hs := ab_if hs
    obtain ⟨rfl, hs⟩ := hs
    obtain ⟨i0, a, st2, rs, v, rfl, ha, h0, hv, h2⟩ := ab_rld_inv hs
    cases h2
    intro H locs cells slots als a1 a2 a3 a4 a5 a6
    have kk := k H locs cells slots als a1 a2 a3 a4 a5 a6
    have hlt : i0.toNatClampNeg < rs.length := (List.getElem?_eq_some_iff.mp hv).1
    have ev : va_rf ((rs.getD i0.toNatClampNeg none).map (ab_ad B rv)) = .ref (ab_ad B rv v) := by rw [List.getD_eq_getElem?_getD, hv]; rfl
    simp only [List.map_cons, ab_v] at kk ⊢
    rw [ab_ad_lt ha a2]
    rw [← ev] at kk
    exact va_aldq (f := fun j => (rs.getD j none).map (ab_ad B rv)) hx hb hK a1 a 2 (ab_w_at ha) rfl (ab_in_of h0 hlt) hd kk
  case aastore =>
    simp only [ab_s] at hs
    replace hs := ab_if hs
    obtain ⟨rfl, hs⟩ := hs
    obtain ⟨v, i0, a, st2, rs, fs, rfl, ha, hav, h0, hlt, h2⟩ := ab_rst_inv hs
    cases h2
    intro H locs cells slots als a1 a2 a3 a4 a5 a6
    simp only [List.map_cons, ab_v]
    have e2 : ab_e B rv cy (.inr (.inl (rs.set i0.toNatClampNeg (some v)))) = .inl (cy 2, rs.length, .inr (.inr (.inr (.inr (va_up (fun j => (rs.getD j none).map (ab_ad B rv)) i0.toNatClampNeg (some (ab_ad B rv v))))))) := by simp only [ab_e, List.length_set, ab_qset rs _ v hlt]
    rw [ab_ad_lt ha a2, ab_ad_lt hav a2]
    rw [ab_ad_lt hav a2] at e2
    exact va_astq (f := fun j => (rs.getD j none).map (ab_ad B rv)) (r := (RX3, TX3, 6)) (vs := fs.map (ab_v B rv)) hx hb hK a1 ab_wD a3 a 2 v 1 (ab_w_at ha) rfl (ab_w_at hav) rfl (ab_in_of h0 hlt) hd (fun H1 locs1 b1 _ b3 => k H1 locs1 cells slots als (by rw [← ab_w_set (ab_lt ha), e2]; exact b1) (by rw [List.length_set]; exact a2) b3 a4 (by rw [List.length_set]; exact a5) (by rw [ab_szs_set ha (by simp [ab_sz])]; exact a6))
  case arraylength =>
    simp only [ab_s] at hs
    replace hs := ab_if hs
    obtain ⟨rfl, hs⟩ := hs
    obtain ⟨a, st2, xs, rfl, ha, h2⟩ := ab_len_inv hs
    cases h2
    intro H locs cells slots als a1 a2 a3 a4 a5 a6
    have kk := k H locs cells slots als a1 a2 a3 a4 a5 a6
    simp only [List.map_cons, ab_v] at kk ⊢
    rcases ha with ha | ⟨j, rfl, ha⟩
    · rw [ab_ad_lt ha a2]
      exact va_alen hx hb hK a1 a 0 (ab_w_at ha) rfl rfl hd kk
    · rw [ab_ad_ro]
      exact va_tlen hx hb (hro.1 j xs ha) a3 rfl hd kk
  case newarray t =>
    simp only [ab_s] at hs
    replace hs := ab_if hs
    obtain ⟨rfl, hs⟩ := hs
    split at hs
    · obtain ⟨n, st2, rfl, h0, hle, hRO, h2⟩ := ab_na_inv hs
      cases h2
      rw [List.length_append] at hr
      rw [ab_szs_app] at hz
      simp only [ab_sz, List.length_replicate, List.length_singleton] at hz hr
      intro H locs cells slots als a1 a2 a3 a4 a5 a6
      simp only [List.map_cons, ab_v]
      refine ab_Wsz fun hH => ?_
      refine va_newa (atype := .int) (a0 := (n.toNatClampNeg, .inl (fun j => (List.replicate n.toNatClampNeg (0 : Int32)).getD j 0))) hx hb (hts _ (ab_ats_mem ab_aw _ List.mem_cons_self)) rfl hK a1 ab_wD a3 hA (fun cA => by rw [ab_rep0]; rfl) h0 rfl (by show _ * 4 ≤ _; omega) (by omega) (by omega) hd (fun q cA H1 b0 b1 b2 b3 => ?_)
      refine ab_Wsz fun hH1 => ?_
      have eq : q = B + hp.length := ab_newad b1 b2 (by omega)
      subst eq
      have ecA : cA = cy 0 := by
        have g1 : s.vm.findClass ("[" ++ FieldType.int.toString) = some cA := (b0.2 3 _ rfl).2
        have g2 : s.vm.findClass ("[" ++ FieldType.int.toString) = some (cy 0) := (hK.2 0 _ rfl).2
        exact Option.some.inj (g1.symm.trans g2)
      subst ecA
      have kk := k H1 locs (cells + 1) (slots + n.toNatClampNeg) als (by rw [ab_w_app]; simp only [ab_e, List.length_replicate]; exact b1) (by rw [List.length_append]; exact hRO) b3 a4 (by rw [List.length_append, List.length_singleton]; omega) (by rw [ab_szs_app]; simp only [ab_sz, List.length_replicate]; omega)
      simp only [List.map_cons, ab_v] at kk
      rw [show ab_ad B rv hp.length = B + hp.length from if_pos hRO] at kk
      exact kk
    · obtain ⟨n, st2, rfl, h0, hle, hRO, h2⟩ := ab_na_inv hs
      cases h2
      rw [List.length_append] at hr
      rw [ab_szs_app] at hz
      simp only [ab_sz, List.length_replicate, List.length_singleton] at hz hr
      intro H locs cells slots als a1 a2 a3 a4 a5 a6
      simp only [List.map_cons, ab_v]
      refine ab_Wsz fun hH => ?_
      refine va_newa (atype := .boolean) (a0 := (n.toNatClampNeg, .inl (fun j => (List.replicate n.toNatClampNeg (0 : Int32)).getD j 0))) hx hb (hts _ (ab_ats_mem ab_aw _ (List.mem_cons_of_mem _ List.mem_cons_self))) rfl hK a1 ab_wD a3 hA (fun cA => by rw [ab_rep0]; rfl) h0 rfl (by show _ * 1 ≤ _; omega) (by omega) (by omega) hd (fun q cA H1 b0 b1 b2 b3 => ?_)
      refine ab_Wsz fun hH1 => ?_
      have eq : q = B + hp.length := ab_newad b1 b2 (by omega)
      subst eq
      have ecA : cA = cy 1 := by
        have g1 : s.vm.findClass ("[" ++ FieldType.boolean.toString) = some cA := (b0.2 3 _ rfl).2
        have g2 : s.vm.findClass ("[" ++ FieldType.boolean.toString) = some (cy 1) := (hK.2 1 _ rfl).2
        exact Option.some.inj (g1.symm.trans g2)
      subst ecA
      have kk := k H1 locs (cells + 1) (slots + n.toNatClampNeg) als (by rw [ab_w_app]; simp only [ab_e, List.length_replicate]; exact b1) (by rw [List.length_append]; exact hRO) b3 a4 (by rw [List.length_append, List.length_singleton]; omega) (by rw [ab_szs_app]; simp only [ab_sz, List.length_replicate]; omega)
      simp only [List.map_cons, ab_v] at kk
      rw [show ab_ad B rv hp.length = B + hp.length from if_pos hRO] at kk
      exact kk
    · cases hs
  case anewarray k0 =>
    simp only [ab_s] at hs
    replace hs := ab_if hs
    obtain ⟨rfl, hs⟩ := hs
    obtain ⟨n, st2, rfl, hok, h0, hle, hRO, h2⟩ := ab_nr_inv hs
    cases h2
    obtain ⟨u, hu⟩ := Option.isSome_iff_exists.mp hok
    have hlk := ab_lk_mem hu
    have hcl : Jvm.Cond.classLink (ab_cl cn) k0 RX3 ∈ ab_W := by
      simp only [ab_aT, List.mem_cons, Prod.mk.injEq, List.not_mem_nil, or_false] at hlk
      rcases hlk with ⟨e1, e2, -⟩ | ⟨e1, e2, -⟩ <;> subst e1 <;> subst e2
      · obtain ⟨is, hok9⟩ := ab_nT_ok (6, 19, 1, [0, 0, 2, 2, 2, 2]) (List.mem_of_getElem? (i := 1) rfl)
        simp only [ab_nok, Bool.and_eq_true] at hok9
        exact ab_ats_mem hok9.1.1.1 _ List.mem_cons_self
      · obtain ⟨is, hok9⟩ := ab_nT_ok (2, 18, 1, [0, 0, 2, 2, 2, 2]) (List.mem_of_getElem? (i := 5) rfl)
        simp only [ab_nok, Bool.and_eq_true] at hok9
        exact ab_ats_mem hok9.1.1.1 _ List.mem_cons_self
    rw [List.length_append] at hr
    rw [ab_szs_app] at hz
    simp only [ab_sz, List.length_replicate, List.length_singleton] at hz hr
    intro H locs cells slots als a1 a2 a3 a4 a5 a6
    simp only [List.map_cons, ab_v]
    refine ab_Wsz fun hH => ?_
    refine va_newq hx hb hown (hts _ hcl) hro.2.2.2.1 hK a1 ab_wD a3 hA h0 rfl (by omega) (by omega) (by omega) hd (fun q cA H1 b0 b1 b2 b3 => ?_)
    refine ab_Wsz fun hH1 => ?_
    have eq : q = B + hp.length := ab_newad b1 b2 (by omega)
    subst eq
    have ecA : cA = cy 2 := by
      obtain ⟨_, _, -, -, -, g1⟩ := (b0.2 3 _ rfl).2
      obtain ⟨_, _, -, -, -, g2⟩ := (hK.2 2 _ rfl).2
      exact Option.some.inj (g1.symm.trans g2)
    subst ecA
    have kk := k H1 locs (cells + 1) (slots + n.toNatClampNeg) als (by rw [ab_w_app]; simp only [ab_e, List.length_replicate, ab_repn]; exact b1) (by rw [List.length_append]; exact hRO) b3 a4 (by rw [List.length_append, List.length_singleton]; omega) (by rw [ab_szs_app]; simp only [ab_sz, List.length_replicate]; omega)
    simp only [List.map_cons, ab_v] at kk
    rw [show ab_ad B rv hp.length = B + hp.length from if_pos hRO] at kk
    exact kk
  case new k0 =>
    simp only [ab_s] at hs
    replace hs := ab_if hs
    obtain ⟨rfl, hs⟩ := hs
    obtain ⟨ci, tcs, hF, hRO, h2⟩ := ab_nw_inv hs
    cases h2
    obtain ⟨is, hok⟩ := ab_nT_ok _ (ab_lk_mem hF)
    simp only [ab_nok, Bool.and_eq_true, decide_eq_true_eq, List.all_eq_true, List.mem_range] at hok
    obtain ⟨⟨⟨h1, h6⟩, hlen⟩, hty⟩ := hok
    obtain ⟨C, T, N, hc, eT, eN, eC, ecl⟩ := ab_vw_lt h6
    obtain ⟨ty0, g1, g2, g3⟩ := ab_vw_ok hc
    rw [eC, eN] at h1
    rw [eN] at hlen hty
    rw [List.length_append] at hr
    rw [ab_szs_app] at hz
    simp only [ab_sz, List.length_map, List.length_singleton] at hz hr
    have m1 := ab_ats_mem h1 _ List.mem_cons_self
    have m2 := ab_ats_mem h1 _ (List.mem_cons_of_mem _ List.mem_cons_self)
    have m3 := ab_ats_mem h1 _ (List.mem_cons_of_mem _ (List.mem_cons_of_mem _ List.mem_cons_self))
    intro H locs cells slots als a1 a2 a3 a4 a5 a6
    refine ab_Wsz fun hH => ?_
    refine va_new (ci := ci) (fs := (tcs.map ab_dv).map (ab_v B rv)) (C := C) (T := T) (N := N) hx hb hts g3 ty0 g1 hown (hts _ m1) (hts _ m2) (hts _ m3) hK a1 ab_wD a3 hA hc (fun j hj => ?_) (by omega) (by omega) hd (fun q H1 b1 b2 b3 => ?_)
    · have h9 := hty j hj
      rw [eT, g1 j hj] at h9
      have hjl : j < tcs.length := by omega
      simp only [List.getD_eq_getElem?_getD, List.getElem?_eq_getElem hjl, Option.getD_some] at h9
      simp only [vp_V, List.getD_eq_getElem?_getD, List.getElem?_map, List.getElem?_eq_getElem hjl, Option.map_some, Option.getD_some]
      generalize tcs[j] = tc at h9
      generalize ty0 j = ty at h9
      cases ty with
      | int => have e : tc = 0 := (by simpa [ab_tco] using h9); subst e; rfl
      | boolean => have e : tc = 1 := (by simpa [ab_tco] using h9); subst e; rfl
      | object C => have e : tc = 2 := (by simpa [ab_tco] using h9); subst e; rfl
      | array C => have e : tc = 2 := (by simpa [ab_tco] using h9); subst e; rfl
      | _ => simp [ab_tco] at h9
    · refine ab_Wsz fun hH1 => ?_
      have eq : q = B + hp.length := ab_newad b1 b2 (by omega)
      subst eq
      have kk := k H1 locs (cells + 1) (slots + N) als (by rw [ab_w_app]; exact b1) (by rw [List.length_append]; exact hRO) b3 a4 (by rw [List.length_append, List.length_singleton]; omega) (by rw [ab_szs_app]; simp only [ab_sz, List.length_map]; omega)
      simp only [List.map_cons, ab_v] at kk
      rw [show ab_ad B rv hp.length = B + hp.length from if_pos hRO] at kk
      exact kk
  all_goals (simp [ab_kd] at hi; done)
end ABU
