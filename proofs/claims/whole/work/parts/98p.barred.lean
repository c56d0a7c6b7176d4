/-! WHAT IS BARRED HAS NO LABELS -/
/-- a sum by the values -/
theorem zsum_val {f F : Int → Int} {m T : Int} (m0 : 0 ≤ m) (hT : 0 ≤ T) (hf : ∀ i, 0 ≤ i → i < m → 0 ≤ f i ∧ f i < T) : zsum (fun i => F (f i)) m = zsum (fun v => F v * zcnt (fun i => decide (f i = v)) m) T := by
  have e1 : ∀ v, 0 ≤ v → v < T → F v * zcnt (fun i => decide (f i = v)) m = zsum (fun i => if decide (f i = v) = true then F v else 0) m := fun v _ _ => by
    rw [zcnt_sum _ m0, ← zsum_mul _ _ m0]
    exact zsum_congr (fun i _ _ => by
      by_cases a : f i = v
      · rw [if_pos (decide_eq_true a), if_pos (decide_eq_true a), Int.mul_one]
      · rw [if_neg (by simp [a]), if_neg (by simp [a]), Int.mul_zero]) m0
  rw [zsum_congr e1 hT, zsum_swap (fun v i => if decide (f i = v) = true then F v else 0) hT m0]
  refine zsum_congr (fun i i0 i1 => ?_) m0
  have := hf i i0 i1
  rw [zsum_one (a := f i) this.1 this.2 (fun v _ _ hv => if_neg (by simp; exact fun q => hv q.symm)), if_pos (by simp)]
/-- values that are all there just once -/
theorem zsum_each {f : Int → Int} {m a T : Int} (m0 : 0 ≤ m) (a0 : 0 ≤ a) (hT : a + m = T) (hf : ∀ i, 0 ≤ i → i < m → a ≤ f i ∧ f i < T) (inj : ∀ i j, 0 ≤ j → j < i → i < m → f j ≠ f i) (F : Int → Int) : zsum (fun i => F (f i)) m = zsum (fun v => if a ≤ v then F v else 0) T := by
  have h1 := zhit (f := f) (m := m) (T := T) m0 (by omega) (fun i i0 i1 => by have := hf i i0 i1; omega)
  have hs : zsum (fun v => if a ≤ v then (1 : Int) else 0) T = m := by
    have key : ∀ t, 0 ≤ t → zsum (fun v => if a ≤ v then (1 : Int) else 0) (a + t) = t := fun t ht => by
      refine z_ind (P := fun t => zsum (fun v => if a ≤ v then (1 : Int) else 0) (a + t) = t) ?_ (fun i hi ih => ?_) ht
      · rw [Int.add_zero]
        exact zsum_zero a0 (fun v _ h => if_neg (by omega))
      · rw [show a + (i + 1) = a + i + 1 by omega, zsum_s _ (by omega), ih, if_pos (by omega)]
    rw [← hT]
    exact key m m0
  have h3 := zsum_tight (A := fun v => zcnt (fun i => decide (f i = v)) m) (B := fun v => if a ≤ v then (1 : Int) else 0) (T := T) (by omega) (fun v v0 v1 => by
    show zcnt (fun i => decide (f i = v)) m ≤ if a ≤ v then (1 : Int) else 0
    by_cases e : a ≤ v
    · rw [if_pos e]
      refine zcnt_le1 m0 (fun x y x0 x1 y0 y1 ex ey => ?_)
      have ex := of_decide_eq_true ex
      have ey := of_decide_eq_true ey
      by_cases c1 : x < y
      · exact absurd (ex.trans ey.symm) (inj y x x0 c1 y1)
      · by_cases c2 : y < x
        · exact absurd (ey.trans ex.symm) (inj x y y0 c2 x1)
        · omega
    · rw [if_neg e, zcnt_zero m0 (fun i i0 i1 => decide_eq_false (by have := hf i i0 i1; omega))]
      omega) (by omega)
  rw [zsum_val (F := F) m0 (show 0 ≤ T by omega) (fun i i0 i1 => by have := hf i i0 i1; omega)]
  refine zsum_congr (fun v v0 v1 => ?_) (by omega)
  have h4 : zcnt (fun i => decide (f i = v)) m = if a ≤ v then (1 : Int) else 0 := h3 v v0 v1
  rw [h4]
  split
  · rw [Int.mul_one]
  · rw [Int.mul_zero]
theorem tri1 : ∀ m, m < 11 → (zsum (fun v => if 1 ≤ v then v else 0) (((m : Nat) : Int) + 1)) % 2 = if m % 4 = 1 ∨ m % 4 = 2 then 1 else 0 := by decide +kernel
theorem tri0 : ∀ m, m < 11 → 2 * zsum (fun v => if 0 ≤ v then v else 0) ((m : Nat) : Int) = ((m * (m - 1) : Nat) : Int) := by decide +kernel
section
variable {N : NR} {x : List Int}
theorem deg_mul (G : GN N) {q : Int} (hq : ∀ p, 0 ≤ p → p < N.n → deg N p % q = 0) (X : Int → Int) : ∃ t, zsum (fun i => X (N.lo i) + X (N.hi i)) N.m = q * t := by
  refine ⟨zsum (fun p => deg N p / q * X p) N.n, ?_⟩
  rw [← G.both X, ← zsum_mul _ _ G.w.n0]
  refine zsum_congr (fun p p0 p1 => ?_) G.w.n0
  have h := Int.mul_ediv_add_emod (deg N p) q
  rw [hq p p0 p1, Int.add_zero] at h
  show deg N p * X p = q * (deg N p / q * X p)
  rw [← Int.mul_assoc, h]
theorem zsum_mod {f h : Int → Int} {m q : Int} (m0 : 0 ≤ m) (e : ∀ i, 0 ≤ i → i < m → ∃ t, f i = h i + q * t) : ∃ t, zsum f m = zsum h m + q * t := by
  revert e
  refine z_ind (P := fun m => (∀ i, 0 ≤ i → i < m → ∃ t, f i = h i + q * t) → ∃ t, zsum f m = zsum h m + q * t) (fun _ => ⟨0, by rw [zsum_0, zsum_0]; omega⟩) (fun i hi ih e => ?_) m0
  obtain ⟨t, ht⟩ := ih (fun j j0 j1 => e j j0 (by omega))
  obtain ⟨u, hu⟩ := e i hi (by omega)
  refine ⟨t + u, ?_⟩
  rw [zsum_s _ hi, zsum_s _ hi, ht, hu, Int.mul_add]
  omega
theorem inj_pig {n T : Int} (n0 : 0 ≤ n) (hT : -1 ≤ T) (hT2 : T ≤ 20) {X : Int → Int} (hX : ∀ p, 0 ≤ p → p < n → 0 ≤ X p ∧ X p ≤ T) (h : rpt n X ≤ 0) : n ≤ T + 1 := by
  have h1 := pig (L := X) n0 hT hX
  have h2 := dst_dbl X n0
  rw [rpt_dbl n0 (fun p p0 p1 => by have := hX p p0 p1; omega)] at h
  have h3 := (dbl_bd X n0).1
  omega
/-- differences and sums are odd together -/
theorem dif_par (a b : Int) : ∃ t, a + b = zab (a - b) + 2 * t := by
  unfold zab
  by_cases h : a - b ≤ -(a - b)
  · exact ⟨a, by omega⟩
  · exact ⟨b, by omega⟩
theorem bGr_no (G : GN N) {k : Int} (hk : k = 0 ∨ k = 1) (hb : bGr N = true) : ¬ CX N k x := by
  intro hx
  have n0 := G.w.n0
  have m0 := G.w.m0
  have m10 := G.w.m10
  have htop : mst N k = N.m := by
    unfold mst
    rw [if_neg (by omega), if_neg (by omega), if_neg (by omega)]
  have hra : rpa N k = 0 := by
    unfold rpa
    rw [if_neg (by omega), if_neg (by omega)]
  have hx0 : Sx N (bsK k) k N.m 0 N.lab x := by
    have h := hx
    unfold CX at h
    rw [htop, hra] at h
    exact h
  obtain ⟨x1, x2, x3, x4, x5, x6⟩ := id hx0
  obtain ⟨y1, y2⟩ := x5 (by omega)
  unfold bGr at hb
  simp only [Bool.or_eq_true, Bool.and_eq_true, decide_eq_true_eq] at hb
  rcases hb with hb | ⟨he, hm⟩
  · have := inj_pig n0 (show -1 ≤ N.m by omega) (by omega) x2 x4
    omega
  · have hw : ∀ i, wof N (xf x) k i = dif N (xf x) i := fun i => if_neg (by omega)
    have h1 := zsum_each (f := wof N (xf x) k) (a := 1) (T := N.m + 1) m0 (by omega) (by omega) (fun i i0 i1 => by
      have := Sx.one G (show k ≠ 2 by omega) (by omega) hx0 i0 i1
      omega) y1 (fun v => v)
    obtain ⟨t, ht⟩ := deg_mul G ((evn_iff n0).mp he) (xf x)
    obtain ⟨u, hu⟩ := zsum_mod (f := fun i => xf x (N.lo i) + xf x (N.hi i)) (h := fun i => wof N (xf x) k i) (q := 2) m0 (fun i i0 i1 => by
      rw [hw i]
      exact dif_par _ _)
    have h2 := tri1 N.m.toNat (by omega)
    rw [Int.toNat_of_nonneg m0, if_pos (by omega)] at h2
    have h1' : zsum (fun i => wof N (xf x) k i) N.m = zsum (fun v => if 1 ≤ v then v else 0) (N.m + 1) := h1
    omega
theorem spl_two (G : GN N) {X : Int → Int} (hX : ∀ p, 0 ≤ p → p < N.n → 0 ≤ X p ∧ X p ≤ 99) (hs : spl N X = true) : isTw N = true := by
  have m0 := G.w.m0
  have n7 := G.w.n7
  have hs := (spl_iff G.w.m10 X).mp hs
  rw [isTw_iff G]
  refine ⟨fun p => decide (X p ≤ glF N X N.m), fun p y p0 p1 y0 y1 hy => ?_⟩
  obtain ⟨i, i0, i1, hi⟩ := (G.bes p y p0 (by omega) y0 y1).mp hy
  have g1 := G.lh i i0 i1
  have g2 := G.w.lo i
  have hlo := hX (N.lo i) g2.1 (by omega)
  have hhi := hX (N.hi i) (by omega) g1.2
  have h1 : ¬ glF N X N.m < min (X (N.lo i)) (X (N.hi i)) := fun q => by
    have := ((glF_lt N X _ m0).mp q).2 i i0 i1
    omega
  have h2 : glF N X N.m < max (X (N.lo i)) (X (N.hi i)) := (glF_lt N X _ m0).mpr ⟨by omega, fun j j0 j1 => hs j i j0 j1 i0 i1⟩
  show decide (X p ≤ glF N X N.m) ≠ decide (X y ≤ glF N X N.m)
  rcases hi with ⟨e1, e2⟩ | ⟨e1, e2⟩
  · rw [← e1, ← e2]
    by_cases a : X (N.lo i) ≤ glF N X N.m
    · rw [decide_eq_true a, decide_eq_false (by omega)]
      decide
    · rw [decide_eq_false a, decide_eq_true (by omega)]
      decide
  · rw [← e1, ← e2]
    by_cases a : X (N.lo i) ≤ glF N X N.m
    · rw [decide_eq_true a, decide_eq_false (by omega)]
      decide
    · rw [decide_eq_false a, decide_eq_true (by omega)]
      decide
theorem brd_no (G : GN N) (hn : 0 < N.n) {k : Int} (k0 : 0 ≤ k) (k4 : k ≤ 4) (hb : brd N k = true) : ¬ CX N k x := by
  have n0 := G.w.n0
  have m0 := G.w.m0
  have m10 := G.w.m10
  have n7 := G.w.n7
  unfold brd at hb
  by_cases h0 : k = 0
  · rw [if_pos h0] at hb
    exact bGr_no G (Or.inl h0) hb
  rw [if_neg h0] at hb
  by_cases h1 : k = 1
  · rw [if_pos h1, Bool.or_eq_true] at hb
    rcases hb with hb | hb
    · exact bGr_no G (Or.inr h1) hb
    · intro hx
      obtain ⟨x1, x2, x3, x4, x5, x6⟩ := hx
      have hms := mst_bd G.w k
      unfold kpS at x6
      rw [if_pos h1] at x6
      rw [spl_two G (fun p p0 p1 => by have := x2 p p0 p1; omega) x6] at hb
      cases hb
  rw [if_neg h1] at hb
  by_cases h2 : k = 2
  · rw [if_pos h2] at hb
    intro hx
    subst h2
    have htop : mst N 2 = N.m - 1 := if_pos rfl
    obtain ⟨x1, x2, x3, x4, x5, x6⟩ := hx
    rw [htop] at x2
    obtain ⟨y1, y2⟩ := x5 (by omega)
    have hm1 : 1 ≤ N.m := by
      have := x2 0 (by omega) hn
      omega
    simp only [Bool.or_eq_true, Bool.and_eq_true, decide_eq_true_eq] at hb
    rcases hb with (hb | ⟨hb, ht⟩) | hb
    · omega
    · have ht' : isTr N = false := by
        rw [Bool.not_eq_true'] at ht
        exact ht
      have hra : rpa N 2 = 0 := by
        unfold rpa
        rw [if_neg (by omega), if_neg (fun q => by rw [ht'] at q; exact absurd q.2 (by decide))]
      rw [hra] at x4
      have := inj_pig n0 (show -1 ≤ N.m - 1 by omega) (by omega) x2 x4
      omega
    · unfold twb at hb
      simp only [Bool.and_eq_true, decide_eq_true_eq] at hb
      obtain ⟨⟨hm2, he⟩, hd⟩ := hb
      have h3 := zsum_each (f := wof N (xf x) 2) (a := 0) (T := N.m) m0 (by omega) (by omega) (fun i i0 i1 => ⟨Int.emod_nonneg _ (by omega), Int.emod_lt_of_pos _ (by omega)⟩) y1 (fun v => v)
      have h3' : zsum (fun i => wof N (xf x) 2 i) N.m = zsum (fun v => if 0 ≤ v then v else 0) N.m := h3
      obtain ⟨u, hu⟩ := zsum_mod (f := fun i => xf x (N.lo i) + xf x (N.hi i)) (h := fun i => wof N (xf x) 2 i) (q := N.m) m0 (fun i i0 i1 => by
        have e := Int.mul_ediv_add_emod (xf x (N.lo i) + xf x (N.hi i)) N.m
        exact ⟨(xf x (N.lo i) + xf x (N.hi i)) / N.m, by
          show xf x (N.lo i) + xf x (N.hi i) = (xf x (N.lo i) + xf x (N.hi i)) % N.m + _
          omega⟩)
      have h4 := tri0 N.m.toNat (by omega)
      rw [Int.toNat_of_nonneg m0] at h4
      obtain ⟨t, ht⟩ := deg_mul G ((evn_iff n0).mp he) (xf x)
      have hcase : N.m = 2 ∨ N.m = 4 ∨ N.m = 6 ∨ N.m = 8 ∨ N.m = 10 := by omega
      cases h8 : dvA N 4 with
      | true =>
        rw [h8, if_pos rfl, Bool.not_eq_true', decide_eq_false_iff_not] at hd
        obtain ⟨t', ht'⟩ := deg_mul G ((dvA_iff n0 4).mp h8) (xf x)
        rcases hcase with e | e | e | e | e
        · rw [e] at h4 hu h3' ht ht'
          change 2 * _ = (2 : Int) at h4
          omega
        · rw [e] at h4 hu h3' ht ht'
          change 2 * _ = (12 : Int) at h4
          omega
        · rw [e] at h4 hu h3' ht ht'
          change 2 * _ = (30 : Int) at h4
          omega
        · omega
        · rw [e] at h4 hu h3' ht ht'
          change 2 * _ = (90 : Int) at h4
          omega
      | false =>
        rw [h8, if_neg (by decide), Bool.not_eq_true', decide_eq_false_iff_not] at hd
        rcases hcase with e | e | e | e | e
        · rw [e] at h4 hu h3' ht
          change 2 * _ = (2 : Int) at h4
          omega
        · omega
        · rw [e] at h4 hu h3' ht
          change 2 * _ = (30 : Int) at h4
          omega
        · omega
        · rw [e] at h4 hu h3' ht
          change 2 * _ = (90 : Int) at h4
          omega
  rw [if_neg h2] at hb
  by_cases h3 : k = 3
  · rw [if_pos h3, Bool.or_eq_true, decide_eq_true_eq] at hb
    intro hx
    subst h3
    have htop : mst N 3 = 2 * N.m - 1 := rfl
    have hra : rpa N 3 = 0 := by
      unfold rpa
      rw [if_neg (by omega), if_neg (by omega)]
    obtain ⟨x1, x2, x3, x4, x5, x6⟩ := hx
    rw [htop] at x2
    rw [hra] at x4
    obtain ⟨y1, y2⟩ := x5 (by omega)
    have hm1 : 1 ≤ N.m := by
      have := x2 0 (by omega) hn
      omega
    rcases hb with hb | hb
    · have : isTw N = true := by
        rw [isTw_iff G]
        refine ⟨fun p => decide (xf x p % 2 = 0), fun p y p0 p1 y0 y1' hy => ?_⟩
        obtain ⟨i, i0, i1, hi⟩ := (G.bes p y p0 (by omega) y0 y1').mp hy
        have g1 := G.lh i i0 i1
        have g2 := G.w.lo i
        have hlo := x2 (N.lo i) g2.1 (by omega)
        have hhi := x2 (N.hi i) (by omega) g1.2
        have hw := y2 i i0 i1
        unfold bsK at hw
        rw [decide_eq_false_iff_not] at hw
        have hwd : wof N (xf x) 3 i = zab (xf x (N.lo i) - xf x (N.hi i)) := rfl
        rw [hwd] at hw
        have hod : ¬ zab (xf x (N.lo i) - xf x (N.hi i)) % 2 = 0 := fun q => hw ⟨rfl, q, by unfold zab; omega, by unfold zab; omega⟩
        have hne : xf x (N.lo i) % 2 ≠ xf x (N.hi i) % 2 := by
          unfold zab at hod
          omega
        show decide (xf x p % 2 = 0) ≠ decide (xf x y % 2 = 0)
        rcases hi with ⟨e1, e2⟩ | ⟨e1, e2⟩
        · rw [← e1, ← e2]
          by_cases a : xf x (N.lo i) % 2 = 0
          · rw [decide_eq_true a, decide_eq_false (by omega)]
            decide
          · rw [decide_eq_false a, decide_eq_true (by omega)]
            decide
        · rw [← e1, ← e2]
          by_cases a : xf x (N.lo i) % 2 = 0
          · rw [decide_eq_true a, decide_eq_false (by omega)]
            decide
          · rw [decide_eq_false a, decide_eq_true (by omega)]
            decide
      rw [this] at hb
      cases hb
    · have := inj_pig n0 (show -1 ≤ 2 * N.m - 1 by omega) (by omega) x2 x4
      omega
  rw [if_neg h3] at hb
  have h4 : k = 4 := by omega
  rw [Bool.and_eq_true, decide_eq_true_eq] at hb
  intro hx
  subst h4
  obtain ⟨x1, x2, x3, x4, x5, x6⟩ := hx
  have x6' : bal N (xf x) = true := x6
  have hb2 := of_decide_eq_true x6'
  obtain ⟨t, ht⟩ := deg_mul G ((evn_iff n0).mp hb.1) (xf x)
  obtain ⟨u, hu⟩ := zsum_mod (f := fun i => xf x (N.lo i) + xf x (N.hi i)) (h := dif N (xf x)) (q := 2) m0 (fun i i0 i1 => dif_par _ _)
  have h5 := hb2.2
  unfold zab at h5
  omega
end
