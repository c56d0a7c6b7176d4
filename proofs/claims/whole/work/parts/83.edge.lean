/-! GRACEFUL LABELS: every difference is there; the edge -/
theorem zcnt_ex {p : Int → Bool} {n : Int} (h0 : 0 ≤ n) (h : 1 ≤ zcnt p n) : ∃ a, 0 ≤ a ∧ a < n ∧ p a = true := by
  by_cases he : ∃ a, 0 ≤ a ∧ a < n ∧ p a = true
  · exact he
  · rw [zcnt_zero h0 (fun k k0 k1 => by
      cases e : p k with
      | false => rfl
      | true => exact absurd ⟨k, k0, k1, e⟩ he)] at h
    omega
theorem zsum_le {A B : Int → Int} {T : Int} (h0 : 0 ≤ T) (h : ∀ v, 0 ≤ v → v < T → A v ≤ B v) : zsum A T ≤ zsum B T := by
  revert h
  refine z_ind (P := fun T => (∀ v, 0 ≤ v → v < T → A v ≤ B v) → zsum A T ≤ zsum B T) (fun _ => Int.le_refl _) (fun i hi ih h => ?_) h0
  rw [zsum_s _ hi, zsum_s _ hi]
  have h1 := ih (fun v a b => h v a (by omega))
  have h2 := h i hi (by omega)
  omega
theorem zsum_tight {A B : Int → Int} {T : Int} (h0 : 0 ≤ T) (h : ∀ v, 0 ≤ v → v < T → A v ≤ B v) (hs : zsum B T ≤ zsum A T) : ∀ v, 0 ≤ v → v < T → A v = B v := by
  revert h hs
  refine z_ind (P := fun T => (∀ v, 0 ≤ v → v < T → A v ≤ B v) → zsum B T ≤ zsum A T → ∀ v, 0 ≤ v → v < T → A v = B v) (fun _ _ v a b => by omega) (fun i hi ih h hs v v0 v1 => ?_) h0
  rw [zsum_s _ hi, zsum_s _ hi] at hs
  have h1 := zsum_le hi (fun v a b => h v a (by omega))
  have h2 := h i hi (by omega)
  by_cases e : v = i
  · subst e
    omega
  · exact ih (fun v a b => h v a (by omega)) (by omega) v v0 (by omega)
/-- how many come to each value: all of them -/
theorem zhit {f : Int → Int} {m T : Int} (m0 : 0 ≤ m) (hT : 0 ≤ T) (hf : ∀ i, 0 ≤ i → i < m → 0 ≤ f i ∧ f i < T) : zsum (fun v => zcnt (fun i => decide (f i = v)) m) T = m := by
  have e1 : ∀ v, 0 ≤ v → v < T → zcnt (fun i => decide (f i = v)) m = zsum (fun i => if decide (f i = v) = true then (1 : Int) else 0) m := fun v _ _ => zcnt_sum _ m0
  rw [zsum_congr e1 hT, zsum_swap (fun v i => if decide (f i = v) = true then (1 : Int) else 0) hT m0]
  have e2 : ∀ i, 0 ≤ i → i < m → zsum (fun v => if decide (f i = v) = true then (1 : Int) else 0) T = 1 := fun i i0 i1 => by
    have := hf i i0 i1
    rw [zsum_one (a := f i) this.1 this.2 (fun v _ _ hv => if_neg (by simp; exact fun q => hv q.symm)), if_pos (by simp)]
  rw [zsum_congr (h := fun _ => 1) e2 m0]
  refine z_ind (P := fun m => zsum (fun _ => (1 : Int)) m = m) rfl (fun i hi ih => ?_) m0
  rw [zsum_s _ hi, ih]
theorem zsum_lo {T : Int} (h0 : 0 ≤ T) : zsum (fun v => if 1 ≤ v then (1 : Int) else 0) (T + 1) = T := by
  refine z_ind (P := fun T => zsum (fun v => if 1 ≤ v then (1 : Int) else 0) (T + 1) = T) ?_ (fun i hi ih => ?_) h0
  · rw [zsum_s _ (by omega), zsum_0, if_neg (by omega)]
    rfl
  · rw [zsum_s _ (by omega), ih, if_pos (by omega)]
theorem zsurj {f : Int → Int} {m : Int} (m0 : 0 ≤ m) (hf : ∀ i, 0 ≤ i → i < m → 1 ≤ f i ∧ f i ≤ m) (inj : ∀ i j, 0 ≤ j → j < i → i < m → f j ≠ f i) {v : Int} (v0 : 1 ≤ v) (v1 : v ≤ m) : ∃ i, 0 ≤ i ∧ i < m ∧ f i = v := by
  have h1 := zhit (f := f) (m := m) (T := m + 1) m0 (by omega) (fun i a b => by have := hf i a b; omega)
  have h2 := zsum_lo m0
  have h3 := zsum_tight (A := fun v => zcnt (fun i => decide (f i = v)) m) (B := fun v => if 1 ≤ v then (1 : Int) else 0) (T := m + 1) (by omega) (fun v a b => by
    show zcnt (fun i => decide (f i = v)) m ≤ if 1 ≤ v then (1 : Int) else 0
    by_cases e : 1 ≤ v
    · rw [if_pos e]
      refine zcnt_le1 m0 (fun x y x0 x1 y0 y1 ex ey => ?_)
      have ex := of_decide_eq_true ex
      have ey := of_decide_eq_true ey
      by_cases c1 : x < y
      · exact absurd (ex.trans ey.symm) (inj y x x0 c1 y1)
      · by_cases c2 : y < x
        · exact absurd (ey.trans ex.symm) (inj x y y0 c2 x1)
        · omega
    · rw [if_neg e, zcnt_zero m0 (fun i a b => decide_eq_false (by have := hf i a b; omega))]
      omega) (by omega) v (by omega) (by omega)
  have h4 : zcnt (fun i => decide (f i = v)) m = if 1 ≤ v then (1 : Int) else 0 := h3
  rw [if_pos v0] at h4
  obtain ⟨a, a0, a1, a2⟩ := zcnt_ex m0 (show 1 ≤ zcnt (fun i => decide (f i = v)) m by omega)
  exact ⟨a, a0, a1, of_decide_eq_true a2⟩
theorem dbl_0 {L : Int → Int} {n : Int} (n0 : 0 ≤ n) : dbl L n = 0 ↔ ∀ p q, 0 ≤ q → q < p → p < n → L q ≠ L p := by
  unfold dbl
  constructor
  · intro h p q q0 qp pn e
    have := zcnt_pos (p := fun p => !nw L p) (n := n) (a := p) (by omega) pn (by
      rw [Bool.not_eq_true']
      apply Bool.eq_false_iff.mpr
      intro hn
      exact (nw_iff L (by omega)).mp hn q q0 qp e)
    omega
  · intro h
    refine zcnt_zero n0 (fun p p0 p1 => ?_)
    rw [Bool.not_eq_false', nw_iff L p0]
    exact fun j j0 j1 => h p j j0 j1 p1
theorem whyP0 {N : NR} {L : Int → Int} {k : Int} {t : Bool} (n0 : 0 ≤ N.n) : whyP N L k t = 0 ↔ (∀ p, 0 ≤ p → p < N.n → L p ≠ -1 ∧ L p ≤ mst N k) ∧ als L k N.n t = false ∧ lals N L k N.n = false ∧ els N L k t = true := by
  unfold whyP
  constructor
  · intro h
    by_cases b1 : (zfind (fun p => decide (L p = -1)) 0 N.n.toNat).isSome = true
    · rw [if_pos b1] at h
      omega
    · rw [if_neg b1] at h
      by_cases b2 : (zfind (fun p => decide (mst N k < L p)) 0 N.n.toNat).isSome = true
      · rw [if_pos b2] at h
        omega
      · rw [if_neg b2] at h
        by_cases b3 : als L k N.n t = true
        · rw [if_pos b3] at h
          omega
        · rw [if_neg b3] at h
          by_cases b4 : lals N L k N.n = true
          · rw [if_pos b4] at h
            omega
          · rw [if_neg b4] at h
            by_cases b5 : els N L k t = true
            · refine ⟨fun p p0 p1 => ⟨fun e => b1 ((zfind_isSome n0).mpr ⟨p, p0, p1, decide_eq_true e⟩), ?_⟩, Bool.eq_false_iff.mpr b3, Bool.eq_false_iff.mpr b4, b5⟩
              by_cases e : mst N k < L p
              · exact absurd ((zfind_isSome n0).mpr ⟨p, p0, p1, decide_eq_true e⟩) b2
              · omega
            · rw [if_neg b5] at h
              omega
  · rintro ⟨h1, h2, h3, h4⟩
    rw [if_neg, if_neg, if_neg (by rw [h2]; decide), if_neg (by rw [h3]; decide), if_pos h4]
    · intro q
      obtain ⟨p, p0, p1, p2⟩ := (zfind_isSome n0).mp q
      have := of_decide_eq_true p2
      have := h1 p p0 p1
      omega
    · intro q
      obtain ⟨p, p0, p1, p2⟩ := (zfind_isSome n0).mp q
      have := of_decide_eq_true p2
      have := h1 p p0 p1
      omega
section
variable {N : NR} {L : Int → Int} {k : Int} {t : Bool}
/-- graceful labels, plainly -/
abbrev Grc (N : NR) (L : Int → Int) : Prop := (LBd N L N.m) ∧ (∀ p q, 0 ≤ q → q < p → p < N.n → L q ≠ L p) ∧ (∀ i j, 0 ≤ j → j < i → i < N.m → dif N L j ≠ dif N L i)
theorem Grc.bd {N : NR} {L : Int → Int} (zz : Grc N L) : LBd N L N.m := zz.1
theorem Grc.inj {N : NR} {L : Int → Int} (zz : Grc N L) : ∀ p q, 0 ≤ q → q < p → p < N.n → L q ≠ L p := zz.2.1
theorem Grc.df {N : NR} {L : Int → Int} (zz : Grc N L) : ∀ i j, 0 ≤ j → j < i → i < N.m → dif N L j ≠ dif N L i := zz.2.2
theorem gr_iff (G : GN N) (hb : ∀ p, 0 ≤ p → p < N.n → -1 ≤ L p) (hk : k = 0 ∨ k = 1) : whyP N L k t = 0 ↔ Grc N L ∧ (k = 1 → spl N L = true) := by
  have n0 := G.w.n0
  have m0 := G.w.m0
  have hm : mst N k = N.m := by
    unfold mst
    rw [if_neg (by omega), if_neg (by omega), if_neg (by omega)]
  have ha : als L k N.n t = false ↔ dbl L N.n = 0 := by
    have := dbl_bd L n0
    unfold als
    rw [decide_eq_false_iff_not, if_neg (by omega)]
    omega
  have hl : lals N L k N.n = false ↔ ∀ i j, 0 ≤ j → j < i → i < N.m → dif N L j ≠ dif N L i := by
    unfold lals
    rw [if_neg (by omega)]
    have hw : ∀ i, wof N L k i = dif N L i := fun i => if_neg (by omega)
    constructor
    · intro h i j j0 ji im e
      have g1 := G.lh i (by omega) im
      have g2 := G.lh j (by omega) (by omega)
      rw [(lk_iff N L k N.n m0).mpr ⟨i, j, j0, ji, im, g1.2, g2.2, by rw [hw, hw]; exact e⟩] at h
      cases h
    · intro h
      apply Bool.eq_false_iff.mpr
      intro q
      obtain ⟨i, j, j0, ji, im, -, -, e⟩ := (lk_iff N L k N.n m0).mp q
      rw [hw, hw] at e
      exact h i j j0 ji im e
  have he : els N L k t = true ↔ (k = 1 → spl N L = true) := by
    unfold els
    by_cases h1 : k = 1
    · rw [if_pos h1]
      exact ⟨fun q _ => q, fun q => q h1⟩
    · rw [if_neg h1, if_neg (by omega), if_neg (by omega)]
      exact ⟨fun _ q => absurd q h1, fun _ => decide_eq_true (Or.inl (by omega))⟩
  rw [whyP0 n0, ha, hl, he, hm, dbl_0 n0]
  constructor
  · rintro ⟨h1, h2, h3, h4⟩
    exact ⟨⟨fun p p0 p1 => by have := h1 p p0 p1; have := hb p p0 p1; omega, h2, h3⟩, h4⟩
  · rintro ⟨⟨h1, h2, h3⟩, h4⟩
    exact ⟨fun p p0 p1 => by have := h1 p p0 p1; omega, h2, h3, h4⟩
theorem Grc.one (H : Grc N L) (G : GN N) {i : Int} (i0 : 0 ≤ i) (i1 : i < N.m) : 1 ≤ dif N L i ∧ dif N L i ≤ N.m := by
  have h1 := H.bd.line G i0 i1
  have h2 := G.lh i i0 i1
  have h3 := G.w.lo i
  have h4 := H.inj (N.hi i) (N.lo i) h3.1 h2.1 h2.2
  unfold dif zab
  omega
theorem Grc.hit (H : Grc N L) (G : GN N) {v : Int} (v0 : 1 ≤ v) (v1 : v ≤ N.m) : ∃ i, 0 ≤ i ∧ i < N.m ∧ dif N L i = v :=
  zsurj G.w.m0 (fun i i0 i1 => H.one G i0 i1) H.df v0 v1
theorem Grc.zero (H : Grc N L) (G : GN N) (hn : 0 < N.n) : ∃ p, 0 ≤ p ∧ p < N.n ∧ L p = 0 := by
  have m0 := G.w.m0
  by_cases hm : N.m = 0
  · have := H.bd 0 (by omega) hn
    exact ⟨0, by omega, hn, by omega⟩
  · obtain ⟨i, i0, i1, e⟩ := H.hit G (v := N.m) (by omega) (by omega)
    have h1 := H.bd.line G i0 i1
    have h2 := G.lh i i0 i1
    have h3 := G.w.lo i
    unfold dif zab at e
    by_cases h5 : L (N.lo i) = 0
    · exact ⟨N.lo i, h3.1, by omega, h5⟩
    · exact ⟨N.hi i, by omega, by omega, by omega⟩
end
