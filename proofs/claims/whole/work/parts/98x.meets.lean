/-! THE REFERENCE'S SEARCH MEETS THE COMPLETIONS -/
section
variable {N : NR} {W : Int → Int} {k : Int} {M : Int → Int}
theorem als_rpt (G : GN N) (hb : ∀ q, 0 ≤ q → q < N.n → 0 ≤ M q ∧ M q ≤ mst N k) : als M k N.n (isTr N) = false ↔ rpt N.n M ≤ rpa N k := by
  have n0 := G.w.n0
  have n7 := G.w.n7
  have mb := mst_b3 G.w k
  have e := rpt_dbl n0 (X := M) (fun p p0 p1 => by have := hb p p0 p1; omega)
  have h7 := rpt_le n0 (L := M) (fun p p0 p1 => by have := hb p p0 p1; omega)
  unfold als rpa
  rw [decide_eq_false_iff_not]
  by_cases h4 : k = 4
  · rw [if_pos h4]
    exact ⟨fun _ => by omega, fun _ h => h.1 h4⟩
  · rw [if_neg h4, e]
    by_cases h2 : k = 2 ∧ isTr N = true
    · rw [if_pos h2]
      exact ⟨fun h => Int.not_lt.mp (fun z => h ⟨h4, z⟩), fun h z => absurd z.2 (by omega)⟩
    · rw [if_neg h2]
      exact ⟨fun h => Int.not_lt.mp (fun z => h ⟨h4, z⟩), fun h z => absurd z.2 (by omega)⟩
theorem lals_dis (G : GN N) : lals N M k N.n = false ↔ (k ≠ 4 → ∀ i j, 0 ≤ j → j < i → i < N.m → wof N M k j ≠ wof N M k i) := by
  have m0 := G.w.m0
  unfold lals
  by_cases h4 : k = 4
  · rw [if_pos h4]
    exact ⟨fun _ h => absurd h4 h, fun _ => rfl⟩
  · rw [if_neg h4]
    constructor
    · intro h _ i j j0 ji im e
      have g1 := G.lh i (by omega) im
      have g2 := G.lh j j0 (by omega)
      have := (lk_iff N M k N.n m0).mpr ⟨i, j, j0, ji, im, by omega, by omega, e⟩
      rw [h] at this
      cases this
    · intro h
      cases hl : lk N M k N.n with
      | false => rfl
      | true =>
        obtain ⟨i, j, a1, a2, a3, a4, a5, a6⟩ := (lk_iff N M k N.n m0).mp hl
        exact absurd a6 (h h4 i j a1 a2 a3)
theorem oddq_bs (G : GN N) (hb : ∀ q, 0 ≤ q → q < N.n → 0 ≤ M q ∧ M q ≤ mst N k) : (k = 3 → oddq N M N.n = true) ↔ (k ≠ 4 → ∀ i, 0 ≤ i → i < N.m → bsK k (wof N M k i) = false) := by
  have m0 := G.w.m0
  have mb := mst_b3 G.w k
  by_cases h3 : k = 3
  · have ew : ∀ i, wof N M k i = dif N M i := fun i => if_neg (by omega)
    have bd : ∀ i, 0 ≤ i → i < N.m → 0 ≤ dif N M i ∧ dif N M i ≤ 20 := fun i i0 i1 => by
      have g1 := G.lh i i0 i1
      have g2 := G.w.lo i
      have g3 := hb (N.lo i) (by omega) (by omega)
      have g4 := hb (N.hi i) (by omega) (by omega)
      unfold dif zab
      omega
    constructor
    · intro h _ i i0 i1
      have h6 := of_decide_eq_false ((zfind_isNone m0).mp (h h3) i i0 i1)
      have g1 := G.lh i i0 i1
      rw [ew]
      exact decide_eq_false (fun z => h6 ⟨g1.2, z.2.1⟩)
    · intro h _
      refine (zfind_isNone m0).mpr (fun i i0 i1 => ?_)
      have h6 := h (by omega) i i0 i1
      rw [ew] at h6
      have h7 := of_decide_eq_false h6
      have b := bd i i0 i1
      exact decide_eq_false (fun z => h7 ⟨h3, z.2, b.1, b.2⟩)
  · exact ⟨fun _ _ i _ _ => decide_eq_false (fun z => h3 z.1), fun _ h => absurd h h3⟩
theorem tree_dbl (G : GN N) (ht : isTr N = true) (hb : ∀ q, 0 ≤ q → q < N.n → 0 ≤ M q ∧ M q ≤ N.m - 1) (n1 : 1 ≤ N.n) : dbl M N.n ≠ 0 := by
  intro h
  have m0 := G.w.m0
  have hm : N.m = N.n - 1 := (of_decide_eq_true ht).1
  have inj := (dbl_0 (L := M) G.w.n0).mp h
  have hl := hb N.m (by omega) (by omega)
  obtain ⟨i, i0, i1, e⟩ := zsurj (f := fun p => M p + 1) m0 (fun i i0 i1 => by
    have := hb i i0 (by omega)
    show 1 ≤ M i + 1 ∧ M i + 1 ≤ N.m
    omega) (fun i j j0 ji im => by
    have := inj i j j0 ji (by omega)
    show M j + 1 ≠ M i + 1
    omega) (v := M N.m + 1) (by omega) (by omega)
  have := inj N.m i i0 i1 (by omega)
  replace e : M i + 1 = M N.m + 1 := e
  omega
theorem core (G : GN N) (n1 : 1 ≤ N.n) (k0 : 0 ≤ k) (k4 : k ≤ 4) (hb : ∀ q, 0 ≤ q → q < N.n → 0 ≤ M q ∧ M q ≤ mst N k) : ((als M k N.n (isTr N) = false ∧ lals N M k N.n = false ∧ (k = 3 → oddq N M N.n = true)) ∧ els N M k (isTr N) = true) ↔ (rpt N.n M ≤ rpa N k ∧ (k ≠ 4 → (∀ i j, 0 ≤ j → j < i → i < N.m → wof N M k j ≠ wof N M k i) ∧ ∀ i, 0 ≤ i → i < N.m → bsK k (wof N M k i) = false) ∧ kpS N k M = true) := by
  have n0 := G.w.n0
  have mb := mst_b3 G.w k
  have D : als M k N.n (isTr N) = false → (k = 3 → oddq N M N.n = true) → (els N M k (isTr N) = true ↔ kpS N k M = true) := fun ha ho => by
    unfold els kpS
    by_cases h1 : k = 1
    · rw [if_pos h1, if_pos h1]
    · rw [if_neg h1, if_neg h1]
      by_cases h3 : k = 3
      · rw [if_pos h3, if_neg (by omega)]
        exact ⟨fun _ => rfl, fun _ => ho h3⟩
      · rw [if_neg h3]
        by_cases h4 : k = 4
        · rw [if_pos h4, if_pos h4]
        · rw [if_neg h4, if_neg h4]
          refine ⟨fun _ => rfl, fun _ => decide_eq_true ?_⟩
          by_cases h2 : k = 2
          · right
            cases ht : isTr N with
            | false => exact Or.inl rfl
            | true =>
              right
              have em : mst N k = N.m - 1 := if_pos h2
              have t1 := tree_dbl (M := M) G ht (fun q q0 q1 => by have := hb q q0 q1; omega) n1
              have t2 := (als_rpt G hb).mp ha
              have er : rpa N k = 1 := by
                unfold rpa
                rw [if_neg h4, if_pos ⟨h2, ht⟩]
              rw [rpt_dbl n0 (fun p p0 p1 => by have := hb p p0 p1; omega), er] at t2
              have t3 := dbl_bd M n0
              omega
          · exact Or.inl h2
  constructor
  · intro ⟨⟨a, b, c⟩, d⟩
    exact ⟨(als_rpt G hb).mp a, fun h4 => ⟨(lals_dis G).mp b h4, (oddq_bs G hb).mp c h4⟩, (D a c).mp d⟩
  · intro ⟨a, b, c⟩
    have a' := (als_rpt G hb).mpr a
    have o' := (oddq_bs G hb).mpr (fun h4 => (b h4).2)
    exact ⟨⟨a', (lals_dis G).mpr (fun h4 => (b h4).1), o'⟩, (D a' o').mpr c⟩
theorem enu_Sx (G : GN N) (n1 : 1 ≤ N.n) (k0 : 0 ≤ k) (k4 : k ≤ 4) (L : Int → Int) (x : List Int) : x ∈ (enu N W k N.n.toNat L).map (lst N.n) ↔ Sx N (bsK k) k (mst N k) (rpa N k) W x := by
  have n0 := G.w.n0
  have cast : N.n - ((N.n.toNat : Nat) : Int) = 0 := by omega
  rw [List.mem_map]
  constructor
  · intro ⟨M, hM, hx⟩
    obtain ⟨h1, h2, h3⟩ := (enu_mem G _ L M (by omega)).mp hM
    rw [cast] at h2
    have hb : ∀ q, 0 ≤ q → q < N.n → 0 ≤ M q ∧ M q ≤ mst N k := fun q q0 q1 => ⟨(h2 q q0 q1).1, (h2 q q0 q1).2.1⟩
    have ho := (okv_all G n1 M).mp (fun q q0 q1 => (h2 q q0 q1).2.2)
    have C := (core G n1 k0 k4 hb).mp ⟨ho.2, h3⟩
    subst hx
    have ex : ∀ p, 0 ≤ p → p < N.n → xf (lst N.n M) p = M p := fun p p0 p1 => xf_lst M p0 p1
    have ew : ∀ i, 0 ≤ i → i < N.m → wof N (xf (lst N.n M)) k i = wof N M k i := fun i i0 i1 => wof_cg G (q := N.n) ex i0 i1 (G.lh i i0 i1).2
    refine ⟨lst_len _ _, fun p p0 p1 => by rw [ex p p0 p1]; exact hb p p0 p1, fun p p0 p1 hp => ?_, ?_, fun h4 => ⟨fun i j j0 ji im => ?_, fun i i0 i1 => ?_⟩, (kpS_congr G ex).trans C.2.2⟩
    · rw [ex p p0 p1]
      rcases ho.1 p p0 p1 with h | h
      · exact absurd h hp
      · exact h.symm
    · rw [rpt_congr n0 ex]
      exact C.1
    · rw [ew j j0 (by omega), ew i (by omega) im]
      exact (C.2.1 h4).1 i j j0 ji im
    · rw [ew i i0 i1]
      exact (C.2.1 h4).2 i i0 i1
  · intro ⟨x1, x2, x3, x4, x5, x6⟩
    have ex : ∀ p, 0 ≤ p → p < N.n → zfi (xf x) L N.n p = xf x p := fun p p0 p1 => if_pos ⟨p0, p1⟩
    refine ⟨zfi (xf x) L N.n, ?_, (lst_ext ex).trans (lst_xf x1)⟩
    have ew : ∀ i, 0 ≤ i → i < N.m → wof N (zfi (xf x) L N.n) k i = wof N (xf x) k i := fun i i0 i1 => wof_cg G (q := N.n) ex i0 i1 (G.lh i i0 i1).2
    have hb : ∀ q, 0 ≤ q → q < N.n → 0 ≤ zfi (xf x) L N.n q ∧ zfi (xf x) L N.n q ≤ mst N k := fun q q0 q1 => by
      rw [ex q q0 q1]
      exact x2 q q0 q1
    have C := (core G n1 k0 k4 hb).mpr ⟨by rw [rpt_congr n0 ex]; exact x4, fun h4 => ⟨fun i j j0 ji im => by rw [ew j j0 (by omega), ew i (by omega) im]; exact (x5 h4).1 i j j0 ji im, fun i i0 i1 => by rw [ew i i0 i1]; exact (x5 h4).2 i i0 i1⟩, (kpS_congr G ex).trans x6⟩
    have ho := (okv_all (W := W) (k := k) G n1 (zfi (xf x) L N.n)).mpr ⟨fun q q0 q1 => by
      rw [ex q q0 q1]
      by_cases hw : W q = -1
      · exact Or.inl hw
      · exact Or.inr (x3 q q0 q1 hw).symm, C.1⟩
    refine (enu_mem G _ L _ (by omega)).mpr ⟨fun q hq => if_neg (by omega), fun q q0 q1 => ?_, C.2⟩
    have q0' : 0 ≤ q := by omega
    exact ⟨(hb q q0' q1).1, (hb q q0' q1).2, ho q q0' q1⟩
end
