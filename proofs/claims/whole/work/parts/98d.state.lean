/-! COMPLETIONS: the state of a search -/
def Ldl (N : NR) (lab : Int → Int) (i : Int) : Prop := lab (N.lo i) ≠ -1 ∧ lab (N.hi i) ≠ -1
abbrev SI (N : NR) (bs : Int → Bool) (s : Se) : Prop := (GN N) ∧ (0 ≤ s.kind ∧ s.kind ≤ 4) ∧ (-1 ≤ s.top ∧ s.top ≤ 20) ∧ (s.kind = 2 → s.top = N.m - 1) ∧ (s.kind = 4 → s.top = 1) ∧ (∀ p, 0 ≤ p → p < N.n → -1 ≤ s.lab p ∧ s.lab p ≤ s.top) ∧ (∀ v, 0 ≤ v → v ≤ 20 → s.uses v = cnL N.n s.lab v) ∧ (s.rep = rpt N.n s.lab) ∧ (s.rep ≤ s.all) ∧ (0 ≤ s.all ∧ s.all ≤ 7) ∧ (s.kind ≠ 4 → ∀ v, 0 ≤ v → v < 32 → (bi s.wor v = true ↔ bs v = true ∨ ∃ i, 0 ≤ i ∧ i < N.m ∧ Ldl N s.lab i ∧ wof N s.lab s.kind i = v)) ∧ (s.kind ≠ 4 → ∀ i j, 0 ≤ j → j < i → i < N.m → Ldl N s.lab i → Ldl N s.lab j → wof N s.lab s.kind j ≠ wof N s.lab s.kind i) ∧ (s.kind ≠ 4 → ∀ i, 0 ≤ i → i < N.m → Ldl N s.lab i → bs (wof N s.lab s.kind i) = false) ∧ (∀ v, 21 ≤ v → v < 32 → bs v = false)
theorem SI.G {N : NR} {bs : Int → Bool} {s : Se} (zz : SI N bs s) : GN N := zz.1
theorem SI.k0 {N : NR} {bs : Int → Bool} {s : Se} (zz : SI N bs s) : 0 ≤ s.kind ∧ s.kind ≤ 4 := zz.2.1
theorem SI.t1 {N : NR} {bs : Int → Bool} {s : Se} (zz : SI N bs s) : -1 ≤ s.top ∧ s.top ≤ 20 := zz.2.2.1
theorem SI.t2 {N : NR} {bs : Int → Bool} {s : Se} (zz : SI N bs s) : s.kind = 2 → s.top = N.m - 1 := zz.2.2.2.1
theorem SI.t4 {N : NR} {bs : Int → Bool} {s : Se} (zz : SI N bs s) : s.kind = 4 → s.top = 1 := zz.2.2.2.2.1
theorem SI.lab {N : NR} {bs : Int → Bool} {s : Se} (zz : SI N bs s) : ∀ p, 0 ≤ p → p < N.n → -1 ≤ s.lab p ∧ s.lab p ≤ s.top := zz.2.2.2.2.2.1
theorem SI.us {N : NR} {bs : Int → Bool} {s : Se} (zz : SI N bs s) : ∀ v, 0 ≤ v → v ≤ 20 → s.uses v = cnL N.n s.lab v := zz.2.2.2.2.2.2.1
theorem SI.rp {N : NR} {bs : Int → Bool} {s : Se} (zz : SI N bs s) : s.rep = rpt N.n s.lab := zz.2.2.2.2.2.2.2.1
theorem SI.ra {N : NR} {bs : Int → Bool} {s : Se} (zz : SI N bs s) : s.rep ≤ s.all := zz.2.2.2.2.2.2.2.2.1
theorem SI.al {N : NR} {bs : Int → Bool} {s : Se} (zz : SI N bs s) : 0 ≤ s.all ∧ s.all ≤ 7 := zz.2.2.2.2.2.2.2.2.2.1
theorem SI.wd {N : NR} {bs : Int → Bool} {s : Se} (zz : SI N bs s) : s.kind ≠ 4 → ∀ v, 0 ≤ v → v < 32 → (bi s.wor v = true ↔ bs v = true ∨ ∃ i, 0 ≤ i ∧ i < N.m ∧ Ldl N s.lab i ∧ wof N s.lab s.kind i = v) := zz.2.2.2.2.2.2.2.2.2.2.1
theorem SI.ds {N : NR} {bs : Int → Bool} {s : Se} (zz : SI N bs s) : s.kind ≠ 4 → ∀ i j, 0 ≤ j → j < i → i < N.m → Ldl N s.lab i → Ldl N s.lab j → wof N s.lab s.kind j ≠ wof N s.lab s.kind i := zz.2.2.2.2.2.2.2.2.2.2.2.1
theorem SI.nb {N : NR} {bs : Int → Bool} {s : Se} (zz : SI N bs s) : s.kind ≠ 4 → ∀ i, 0 ≤ i → i < N.m → Ldl N s.lab i → bs (wof N s.lab s.kind i) = false := zz.2.2.2.2.2.2.2.2.2.2.2.2.1
theorem SI.bh {N : NR} {bs : Int → Bool} {s : Se} (zz : SI N bs s) : ∀ v, 21 ≤ v → v < 32 → bs v = false := zz.2.2.2.2.2.2.2.2.2.2.2.2.2
/-- what is sought, of a kind, behind labels told -/
def Sx (N : NR) (bs : Int → Bool) (k top all : Int) (lab : Int → Int) (x : List Int) : Prop := x.length = N.n.toNat ∧ (∀ p, 0 ≤ p → p < N.n → 0 ≤ xf x p ∧ xf x p ≤ top) ∧ (∀ p, 0 ≤ p → p < N.n → lab p ≠ -1 → xf x p = lab p) ∧ rpt N.n (xf x) ≤ all ∧ (k ≠ 4 → (∀ i j, 0 ≤ j → j < i → i < N.m → wof N (xf x) k j ≠ wof N (xf x) k i) ∧ ∀ i, 0 ≤ i → i < N.m → bs (wof N (xf x) k i) = false) ∧ kpS N k (xf x) = true
def wwR (N : NR) (s : Se) (p l : Int) : Option Int32 := if l < 0 ∨ s.top < l ∨ (0 < s.uses l ∧ s.all ≤ s.rep) then none else if s.kind = 4 then some s.wor else wwF N s.kind s.lab p l s.wor N.n
def sput (s : Se) (p l : Int) (w : Int32) : Se := (Se.mk (zu s.lab p l) (zu s.uses l (s.uses l + 1)) s.ord s.shi s.net s.kind s.top (if 0 < s.uses l then s.rep + 1 else s.rep) s.all w s.many s.any s.one s.stop)
section
variable {N : NR} {bs : Int → Bool} {s : Se} {p l : Int}
theorem wt_bd {k m T u v : Int} (hT : T ≤ 20) (hk : k = 2 → T = m - 1) (u0 : 0 ≤ u) (u1 : u ≤ T) (v0 : 0 ≤ v) (v1 : v ≤ T) : 0 ≤ wt k m u v ∧ wt k m u v ≤ 20 := by
  unfold wt
  split
  · rename_i h
    have := hk h
    have h5 := Int.emod_nonneg (u + v) (show m ≠ 0 by omega)
    have h6 := Int.emod_lt_of_pos (u + v) (show 0 < m by omega)
    omega
  · unfold zab
    omega
theorem SI.hv (S : SI N bs s) (l0 : 0 ≤ l) (l1 : l ≤ s.top) : ∀ q, 0 ≤ q → q < N.n → nbL N s.lab p q = true → 0 ≤ wt s.kind N.m l (s.lab q) ∧ wt s.kind N.m l (s.lab q) < 32 := fun q q0 q1 hq => by
  have h1 := S.lab q q0 q1
  unfold nbL at hq
  simp only [Bool.and_eq_true, Bool.not_eq_true', decide_eq_false_iff_not] at hq
  have := wt_bd (k := s.kind) (m := N.m) S.t1.2 S.t2 l0 l1 (show 0 ≤ s.lab q by omega) h1.2
  omega
theorem SI.wl (S : SI N bs s) {i : Int} (i0 : 0 ≤ i) (i1 : i < N.m) (h : Ldl N s.lab i) : 0 ≤ wof N s.lab s.kind i ∧ wof N s.lab s.kind i ≤ 20 := by
  have g1 := S.G.lh i i0 i1
  have g2 := S.G.w.lo i
  have h1 := S.lab (N.lo i) g2.1 (by omega)
  have h2 := S.lab (N.hi i) (by omega) g1.2
  have h3 := h.1
  have h4 := h.2
  rw [wof_wt]
  exact wt_bd S.t1.2 S.t2 (by omega) h1.2 (by omega) h2.2
/-- a line at a point goes to a neighbour -/
theorem GN.nbr {N : NR} (G : GN N) {i p : Int} (i0 : 0 ≤ i) (i1 : i < N.m) (h : N.lo i = p ∨ N.hi i = p) : ∃ q, 0 ≤ q ∧ q < N.n ∧ q ≠ p ∧ bi (N.bes p) q = true ∧ ((N.lo i = p ∧ N.hi i = q) ∨ (N.lo i = q ∧ N.hi i = p)) := by
  have g1 := G.lh i i0 i1
  have g2 := G.w.lo i
  have g3 := G.w.hi i
  rcases h with h | h
  · exact ⟨N.hi i, by omega, g1.2, by omega, (G.bes p (N.hi i) (by omega) (by omega) (by omega) (by omega)).mpr ⟨i, i0, i1, Or.inl ⟨h, rfl⟩⟩, Or.inl ⟨h, rfl⟩⟩
  · exact ⟨N.lo i, by omega, by omega, by omega, (G.bes p (N.lo i) (by omega) (by omega) (by omega) (by omega)).mpr ⟨i, i0, i1, Or.inr ⟨rfl, h⟩⟩, Or.inr ⟨rfl, h⟩⟩
theorem wof_nb {k : Int} {L : Int → Int} {i q : Int} (h : (N.lo i = p ∧ N.hi i = q) ∨ (N.lo i = q ∧ N.hi i = p)) : wof N L k i = wt k N.m (L p) (L q) := by
  rw [wof_wt]
  rcases h with ⟨h1, h2⟩ | ⟨h1, h2⟩
  · rw [h1, h2]
  · rw [h1, h2, wt_comm]
theorem wof_ne {k : Int} {L : Int → Int} {i : Int} (h : ¬ (N.lo i = p ∨ N.hi i = p)) : wof N (zu L p l) k i = wof N L k i := by
  rw [wof_wt, wof_wt, zu_ne _ _ (fun q => h (Or.inl q)), zu_ne _ _ (fun q => h (Or.inr q))]
theorem Ldl_ne {L : Int → Int} {i : Int} (h : ¬ (N.lo i = p ∨ N.hi i = p)) : Ldl N (zu L p l) i ↔ Ldl N L i := by
  unfold Ldl
  rw [zu_ne _ _ (fun q => h (Or.inl q)), zu_ne _ _ (fun q => h (Or.inr q))]
theorem Ldl_no {L : Int → Int} {i : Int} (hp : L p = -1) (h : Ldl N L i) : ¬ (N.lo i = p ∨ N.hi i = p) := by
  rintro (q | q)
  · exact h.1 (by rw [q]; exact hp)
  · exact h.2 (by rw [q]; exact hp)
/-- a line that is labelled now, at the point that got its label -/
theorem Ldl_at (G : GN N) {L : Int → Int} {i : Int} (i0 : 0 ≤ i) (i1 : i < N.m) (l0 : 0 ≤ l) (h : N.lo i = p ∨ N.hi i = p) (hl : Ldl N (zu L p l) i) : ∃ q, 0 ≤ q ∧ q < N.n ∧ q ≠ p ∧ nbL N L p q = true ∧ ((N.lo i = p ∧ N.hi i = q) ∨ (N.lo i = q ∧ N.hi i = p)) := by
  obtain ⟨q, q0, q1, q2, q3, q4⟩ := G.nbr i0 i1 h
  refine ⟨q, q0, q1, q2, ?_, q4⟩
  unfold nbL
  rw [q3, Bool.true_and, Bool.not_eq_true', decide_eq_false_iff_not]
  unfold Ldl at hl
  rcases q4 with ⟨h1, h2⟩ | ⟨h1, h2⟩
  · have := hl.2
    rw [h2, zu_ne _ _ q2] at this
    exact this
  · have := hl.1
    rw [h1, zu_ne _ _ q2] at this
    exact this
theorem put_ok (S : SI N bs s) (p0 : 0 ≤ p) (p1 : p < N.n) (hp : s.lab p = -1) {w : Int32} (h : wwR N s p l = some w) : SI N bs (sput s p l w) ∧ 0 ≤ l ∧ l ≤ s.top ∧ (s.kind = 4 → w = s.wor) := by
  have n0 := S.G.w.n0
  have n7 := S.G.w.n7
  unfold wwR at h
  by_cases a : l < 0 ∨ s.top < l ∨ (0 < s.uses l ∧ s.all ≤ s.rep)
  · rw [if_pos a] at h
    cases h
  rw [if_neg a] at h
  have l0 : 0 ≤ l := by omega
  have l1 : l ≤ s.top := by omega
  have l20 : l ≤ 20 := by have := S.t1.2; omega
  have hu := S.us l l0 l20
  have hlab : ∀ q, 0 ≤ q → q < N.n → -1 ≤ zu s.lab p l q ∧ zu s.lab p l q ≤ s.top := fun q q0 q1 => by
    unfold zu
    split
    · omega
    · exact S.lab q q0 q1
  have hus : ∀ v, 0 ≤ v → v ≤ 20 → zu s.uses l (s.uses l + 1) v = cnL N.n (zu s.lab p l) v := fun v v0 v1 => by
    rw [cnL_put p0 p1 hp l0 v v0]
    by_cases e : v = l
    · subst e
      rw [zu_same, if_pos rfl, hu]
    · rw [zu_ne _ _ e, if_neg e, S.us v v0 v1]
  have hrp : (if 0 < s.uses l then s.rep + 1 else s.rep) = rpt N.n (zu s.lab p l) := by
    rw [rpt_put p0 p1 hp l0 l20, ← hu, S.rp]
  have hra : (if 0 < s.uses l then s.rep + 1 else s.rep) ≤ s.all := by
    have := S.ra
    split <;> omega
  by_cases h4 : s.kind = 4
  · rw [if_pos h4] at h
    have hw : s.wor = w := Option.some.inj h
    exact ⟨⟨S.G, S.k0, S.t1, S.t2, S.t4, hlab, hus, hrp, hra, S.al, fun q => absurd h4 q, fun q => absurd h4 q, fun q => absurd h4 q, S.bh⟩, l0, l1, fun _ => hw.symm⟩
  · rw [if_neg h4] at h
    rcases wwF_sp (wor := s.wor) (n := N.n) (S.hv (p := p) l0 l1) n0 (Int.le_refl _) with ⟨w', e, h1, h2, h3⟩ | ⟨e, -⟩
    · rw [e] at h
      have hw : w' = w := Option.some.inj h
      subst hw
      have hnew : ∀ i q, ((N.lo i = p ∧ N.hi i = q) ∨ (N.lo i = q ∧ N.hi i = p)) → q ≠ p → wof N (zu s.lab p l) s.kind i = wt s.kind N.m l (s.lab q) := fun i q hi hq => by
        rw [wof_nb hi, zu_same, zu_ne _ _ hq]
      refine ⟨⟨S.G, S.k0, S.t1, S.t2, S.t4, hlab, hus, hrp, hra, S.al, fun _ v v0 v1 => ?_, fun _ i j j0 ji im hi hj => ?_, fun _ i i0 i1 hi => ?_, S.bh⟩, l0, l1, fun q => absurd q h4⟩
      · show bi w' v = true ↔ bs v = true ∨ ∃ i, 0 ≤ i ∧ i < N.m ∧ Ldl N (zu s.lab p l) i ∧ wof N (zu s.lab p l) s.kind i = v
        rw [h3 v v0 v1, S.wd h4 v v0 v1]
        constructor
        · rintro ((hb | ⟨i, i0, i1, i2, i3⟩) | ⟨q, q0, q1, q2, q3⟩)
          · exact Or.inl hb
          · have hn := Ldl_no hp i2
            exact Or.inr ⟨i, i0, i1, (Ldl_ne hn).mpr i2, (wof_ne hn).trans i3⟩
          · have q2' := q2
            unfold nbL at q2'
            simp only [Bool.and_eq_true, Bool.not_eq_true', decide_eq_false_iff_not] at q2'
            have hne : q ≠ p := fun e => q2'.2 (by rw [e]; exact hp)
            obtain ⟨i, i0, i1, i2⟩ := (S.G.bes p q p0 (by omega) q0 (by omega)).mp q2'.1
            refine Or.inr ⟨i, i0, i1, ?_, (hnew i q i2 hne).trans q3⟩
            unfold Ldl
            rcases i2 with ⟨e1, e2⟩ | ⟨e1, e2⟩
            · rw [e1, e2, zu_same, zu_ne _ _ hne]
              exact ⟨by omega, q2'.2⟩
            · rw [e1, e2, zu_same, zu_ne _ _ hne]
              exact ⟨q2'.2, by omega⟩
        · rintro (hb | ⟨i, i0, i1, i2, i3⟩)
          · exact Or.inl (Or.inl hb)
          · by_cases hn : N.lo i = p ∨ N.hi i = p
            · obtain ⟨q, q0, q1, q2, q3, q4⟩ := Ldl_at S.G i0 i1 l0 hn i2
              exact Or.inr ⟨q, q0, q1, q3, (hnew i q q4 q2).symm.trans i3⟩
            · exact Or.inl (Or.inr ⟨i, i0, i1, (Ldl_ne hn).mp i2, (wof_ne hn).symm.trans i3⟩)
      · show wof N (zu s.lab p l) s.kind j ≠ wof N (zu s.lab p l) s.kind i
        have clash : ∀ a b, 0 ≤ a → a < N.m → 0 ≤ b → b < N.m → (N.lo a = p ∨ N.hi a = p) → ¬ (N.lo b = p ∨ N.hi b = p) → Ldl N (zu s.lab p l) a → Ldl N (zu s.lab p l) b → wof N (zu s.lab p l) s.kind a ≠ wof N (zu s.lab p l) s.kind b := fun a b a0 a1 b0 b1 ha hb la lb e => by
          obtain ⟨q, q0, q1, q2, q3, q4⟩ := Ldl_at S.G a0 a1 l0 ha la
          have lb' := (Ldl_ne hb).mp lb
          have hwb := S.wl b0 b1 lb'
          rw [hnew a q q4 q2, wof_ne hb] at e
          have := h1 q q0 q1 q3
          rw [e, (S.wd h4 _ hwb.1 (by omega)).mpr (Or.inr ⟨b, b0, b1, lb', rfl⟩)] at this
          cases this
        by_cases ni : N.lo i = p ∨ N.hi i = p
        · by_cases nj : N.lo j = p ∨ N.hi j = p
          · obtain ⟨q, q0, q1, q2, q3, q4⟩ := Ldl_at S.G (show 0 ≤ i by omega) im l0 ni hi
            obtain ⟨q', q0', q1', q2', q3', q4'⟩ := Ldl_at S.G j0 (show j < N.m by omega) l0 nj hj
            rw [hnew i q q4 q2, hnew j q' q4' q2']
            have hqq : q ≠ q' := fun e => by
              subst e
              have g := S.G.inc j i j0 ji im
              have g1 := S.G.lh i (by omega) im
              have g2 := S.G.lh j j0 (by omega)
              omega
            by_cases c : q' < q
            · exact h2 q q' q0' c q1 q3 q3'
            · exact fun e => h2 q' q q0 (by omega) q1' q3' q3 e.symm
          · exact fun e => clash i j (by omega) im j0 (by omega) ni nj hi hj e.symm
        · by_cases nj : N.lo j = p ∨ N.hi j = p
          · exact clash j i j0 (by omega) (by omega) im nj ni hj hi
          · rw [wof_ne ni, wof_ne nj]
            exact S.ds h4 i j j0 ji im ((Ldl_ne ni).mp hi) ((Ldl_ne nj).mp hj)
      · show bs (wof N (zu s.lab p l) s.kind i) = false
        by_cases ni : N.lo i = p ∨ N.hi i = p
        · obtain ⟨q, q0, q1, q2, q3, q4⟩ := Ldl_at S.G i0 i1 l0 ni hi
          rw [hnew i q q4 q2]
          apply Bool.eq_false_iff.mpr
          intro hb
          have hv := S.hv l0 l1 q q0 q1 q3
          have := h1 q q0 q1 q3
          rw [(S.wd h4 _ hv.1 hv.2).mpr (Or.inl hb)] at this
          cases this
        · rw [wof_ne ni]
          exact S.nb h4 i i0 i1 ((Ldl_ne ni).mp hi)
    · rw [e] at h
      cases h
theorem put_no (S : SI N bs s) (p0 : 0 ≤ p) (p1 : p < N.n) (hp : s.lab p = -1) (h : wwR N s p l = none) {x : List Int} (hx : Sx N bs s.kind s.top s.all s.lab x) : xf x p ≠ l := by
  have n0 := S.G.w.n0
  have n7 := S.G.w.n7
  obtain ⟨x1, x2, x3, x4, x5, x6⟩ := hx
  intro e
  have hb := x2 p p0 p1
  have l20 : l ≤ 20 := by have := S.t1.2; omega
  have x3' : ∀ q, 0 ≤ q → q < N.n → zu s.lab p l q ≠ -1 → xf x q = zu s.lab p l q := fun q q0 q1 hq => by
    unfold zu at hq ⊢
    split
    · rename_i e2
      rw [e2]
      exact e
    · rename_i e2
      rw [if_neg e2] at hq
      exact x3 q q0 q1 hq
  unfold wwR at h
  by_cases a : l < 0 ∨ s.top < l ∨ (0 < s.uses l ∧ s.all ≤ s.rep)
  · rcases a with a | a | a
    · omega
    · omega
    · have h1 := rpt_mono n0 x3'
      rw [rpt_put p0 p1 hp (by omega) l20, ← S.us l (by omega) l20, if_pos a.1, ← S.rp] at h1
      omega
  · rw [if_neg a] at h
    by_cases h4 : s.kind = 4
    · rw [if_pos h4] at h
      cases h
    · rw [if_neg h4] at h
      obtain ⟨y1, y2⟩ := x5 h4
      rcases wwF_sp (wor := s.wor) (n := N.n) (S.hv (p := p) (l := l) (by omega) (by omega)) n0 (Int.le_refl _) with ⟨w', e', -⟩ | ⟨-, q, q0, q1, q2, q3⟩
      · rw [e'] at h
        cases h
      · have hnb : ∀ q, 0 ≤ q → q < N.n → nbL N s.lab p q = true → ∃ i, 0 ≤ i ∧ i < N.m ∧ ((N.lo i = p ∧ N.hi i = q) ∨ (N.lo i = q ∧ N.hi i = p)) ∧ q ≠ p ∧ wof N (xf x) s.kind i = wt s.kind N.m l (s.lab q) := fun q q0 q1 hq => by
          unfold nbL at hq
          simp only [Bool.and_eq_true, Bool.not_eq_true', decide_eq_false_iff_not] at hq
          have hne : q ≠ p := fun e => hq.2 (by rw [e]; exact hp)
          obtain ⟨i, i0, i1, i2⟩ := (S.G.bes p q p0 (by omega) q0 (by omega)).mp hq.1
          exact ⟨i, i0, i1, i2, hne, by rw [wof_nb i2, e, x3 q q0 q1 hq.2]⟩
        obtain ⟨i, i0, i1, i2, i3, i4⟩ := hnb q q0 q1 q2
        have hv := S.hv (p := p) (l := l) (by omega) (by omega) q q0 q1 q2
        have neq : ∀ a b, 0 ≤ a → a < N.m → 0 ≤ b → b < N.m → a ≠ b → wof N (xf x) s.kind a ≠ wof N (xf x) s.kind b := fun a b a0 a1 b0 b1 hab => by
          by_cases c : a < b
          · exact y1 b a a0 c b1
          · exact fun e => y1 a b b0 (by omega) a1 e.symm
        rcases q3 with q3 | ⟨q', q0', q1', q2', q3⟩
        · rcases (S.wd h4 _ hv.1 hv.2).mp q3 with hb2 | ⟨j, j0, j1, j2, j3⟩
          · have := y2 i i0 i1
            rw [i4, hb2] at this
            cases this
          · have g1 := S.G.lh j j0 j1
            have g2 := S.G.w.lo j
            have hj : wof N (xf x) s.kind j = wof N s.lab s.kind j := by
              rw [wof_wt, wof_wt, x3 _ g2.1 (by omega) j2.1, x3 _ (by omega) g1.2 j2.2]
            have hij : i ≠ j := fun e2 => by
              subst e2
              have hn := Ldl_no hp j2
              rcases i2 with ⟨e1, -⟩ | ⟨-, e1⟩
              · exact hn (Or.inl e1)
              · exact hn (Or.inr e1)
            exact neq i j i0 i1 j0 j1 hij (by rw [i4, hj, j3])
        · obtain ⟨i', i0', i1', i2', i3', i4'⟩ := hnb q' q0' (by omega) q2'
          have hij : i ≠ i' := fun e2 => by
            subst e2
            have g1 := S.G.lh i i0 i1
            omega
          exact neq i i' i0 i1 i0' i1' hij (by rw [i4, i4', q3])
theorem Sx_put {k top all : Int} {lab : Int → Int} {x : List Int} (p0 : 0 ≤ p) (p1 : p < N.n) (hp : lab p = -1) (l0 : 0 ≤ l) : Sx N bs k top all (zu lab p l) x ↔ Sx N bs k top all lab x ∧ xf x p = l := by
  constructor
  · rintro ⟨x1, x2, x3, x4, x5, x6⟩
    have e := x3 p p0 p1 (by rw [zu_same]; omega)
    rw [zu_same] at e
    refine ⟨⟨x1, x2, fun q q0 q1 hq => ?_, x4, x5, x6⟩, e⟩
    have hne : q ≠ p := fun e => hq (by rw [e]; exact hp)
    have := x3 q q0 q1 (by rw [zu_ne _ _ hne]; exact hq)
    rw [zu_ne _ _ hne] at this
    exact this
  · rintro ⟨⟨x1, x2, x3, x4, x5, x6⟩, e⟩
    refine ⟨x1, x2, fun q q0 q1 hq => ?_, x4, x5, x6⟩
    unfold zu at hq ⊢
    split
    · rename_i e2
      rw [e2]
      exact e
    · rename_i e2
      rw [if_neg e2] at hq
      exact x3 q q0 q1 hq
end
