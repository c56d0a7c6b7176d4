/-! GOOD NETS STAY GOOD -/
theorem bi_m1 {i : Int} (h0 : 0 ≤ i) (h1 : i < 32) : bi (qI (-1)) i = true := by
  have h : ∀ k : Nat, k < 32 → bt (-1) k = true := by decide +kernel
  exact h i.toNat (by omega)
theorem sb_xor_or {u : Int32} {k : Int} (h0 : 0 ≤ k) (h1 : k < 32) (h : bi u k = false) : u ^^^ sb k = u ||| sb k := by
  apply bi_ext
  intro i h2 h3
  rw [bi_xor, bi_or, bi_sb h0 h1 h2 h3]
  by_cases e : i = k
  · subst e
    simp [h]
  · simp [e]
theorem sb_xor_and {u : Int32} {k : Int} (h0 : 0 ≤ k) (h1 : k < 32) (h : bi u k = true) : u ^^^ sb k = u &&& (sb k ^^^ qI (-1)) := by
  apply bi_ext
  intro i h2 h3
  rw [bi_xor, bi_and, bi_xor, bi_sb h0 h1 h2 h3, bi_m1 h2 h3]
  by_cases e : i = k
  · subst e
    simp [h]
  · simp [e]
section
variable {N : NR}
theorem zins_lt {f : Int → Int} {k m v x : Int} (h : x < k) : zins f k m v x = f x := if_pos h
theorem zins_at {f : Int → Int} {k m v : Int} : zins f k m v k = v := by
  unfold zins
  rw [if_neg (by omega), if_pos rfl]
theorem zins_gt {f : Int → Int} {k m v x : Int} (h : k < x) (h2 : x ≤ m) : zins f k m v x = f (x - 1) := by
  unfold zins
  rw [if_neg (by omega), if_neg (by omega), if_pos h2]
theorem zrem_lt {f : Int → Int} {k m x : Int} (h : x < k) : zrem f k m x = f x := if_pos h
theorem zrem_ge {f : Int → Int} {k m x : Int} (h : k ≤ x) (h2 : x < m) : zrem f k m x = f (x + 1) := by
  unfold zrem
  rw [if_neg (by omega), if_pos h2]
theorem zins_all {P : Int → Prop} {f : Int → Int} {k m v x : Int} (hf : ∀ x, P (f x)) (hv : P v) : P (zins f k m v x) := by
  unfold zins
  split
  · exact hf _
  · split
    · exact hv
    · split <;> exact hf _
theorem zrem_all {P : Int → Prop} {f : Int → Int} {k m x : Int} (hf : ∀ x, P (f x)) : P (zrem f k m x) := by
  unfold zrem
  split
  · exact hf _
  · split <;> exact hf _
theorem GN.insert (G : GN N) {a b : Int} (ha0 : 0 ≤ a) (ha : a < N.n) (hb0 : 0 ≤ b) (hb : b < N.n) (hab : a ≠ b) (hj : bi (N.bes a) b = false) (hm9 : N.m < 10) : GN (ninsert N a b) := by
  have n7 := G.w.n7
  have hm := G.w.m0
  obtain ⟨k0, km, kge, klt⟩ := nat_spec (N := N) (min a b) (max a b) hm
  have hno : ∀ i, 0 ≤ i → i < N.m → ¬ (N.lo i = min a b ∧ N.hi i = max a b) := by
    intro i h1 h2 h3
    have := (G.bes a b ha0 (by omega) hb0 (by omega)).mpr ⟨i, h1, h2, by omega⟩
    rw [hj] at this
    cases this
  -- keys
  have kA : ∀ i, 0 ≤ i → i < nat N (min a b) (max a b) → 8 * N.lo i + N.hi i < 8 * min a b + max a b := by
    intro i h1 h2
    have h3 := of_decide_eq_true (klt (by omega))
    have b1 := G.w.hi (nat N (min a b) (max a b) - 1)
    have b2 := G.w.hi i
    by_cases e : i = nat N (min a b) (max a b) - 1
    · subst e
      omega
    · have h4 := G.inc i (nat N (min a b) (max a b) - 1) h1 (by omega) (by omega)
      omega
  have kB : ∀ i, nat N (min a b) (max a b) ≤ i → i < N.m → 8 * min a b + max a b < 8 * N.lo i + N.hi i := by
    intro i h1 h2
    have h3 := of_decide_eq_false (kge i h1 h2)
    have b1 := G.w.hi i
    have b2 := hno i (by omega) h2
    omega
  generalize hk : nat N (min a b) (max a b) = k at *
  have e : ninsert N a b = (NR.mk N.n (N.m + 1) (zins N.lo k N.m (min a b)) (zins N.hi k N.m (max a b)) N.lab (zu (zu N.bes a (N.bes a ||| sb b)) b (N.bes b ||| sb a))) := by
    unfold ninsert
    rw [hk]
  rw [e]
  refine ⟨⟨G.w.n0, n7, by show 0 ≤ N.m + 1; omega, by show N.m + 1 ≤ 10; omega, G.w.lab, fun i => zins_all (P := fun x => 0 ≤ x ∧ x ≤ 6) G.w.lo (by omega), fun i => zins_all (P := fun x => 0 ≤ x ∧ x ≤ 6) G.w.hi (by omega)⟩, ?_, ?_, ?_, G.nl⟩
  · intro i h1 h2
    show zins N.lo k N.m (min a b) i < zins N.hi k N.m (max a b) i ∧ zins N.hi k N.m (max a b) i < N.n
    change i < N.m + 1 at h2
    by_cases c1 : i < k
    · rw [zins_lt c1, zins_lt c1]
      exact G.lh i h1 (by omega)
    · by_cases c2 : i = k
      · subst c2
        rw [zins_at, zins_at]
        omega
      · rw [zins_gt (by omega) (by omega), zins_gt (by omega) (by omega)]
        exact G.lh (i - 1) (by omega) (by omega)
  · intro i l h1 h2 h3
    change l < N.m + 1 at h3
    show 8 * zins N.lo k N.m (min a b) i + zins N.hi k N.m (max a b) i < 8 * zins N.lo k N.m (min a b) l + zins N.hi k N.m (max a b) l
    by_cases c1 : i < k
    · rw [zins_lt c1, zins_lt c1]
      by_cases d1 : l < k
      · rw [zins_lt d1, zins_lt d1]
        exact G.inc i l h1 h2 (by omega)
      · by_cases d2 : l = k
        · subst d2
          rw [zins_at, zins_at]
          exact kA i h1 c1
        · rw [zins_gt (by omega) (by omega), zins_gt (by omega) (by omega)]
          have := kA i h1 c1
          have := kB (l - 1) (by omega) (by omega)
          omega
    · by_cases c2 : i = k
      · subst c2
        rw [zins_at, zins_at, zins_gt (by omega) (by omega), zins_gt (by omega) (by omega)]
        exact kB (l - 1) (by omega) (by omega)
      · rw [zins_gt (by omega) (by omega), zins_gt (by omega) (by omega), zins_gt (by omega) (by omega), zins_gt (by omega) (by omega)]
        exact G.inc (i - 1) (l - 1) (by omega) (by omega) (by omega)
  · intro x y hx0 hx hy0 hy
    show bi (zu (zu N.bes a (N.bes a ||| sb b)) b (N.bes b ||| sb a) x) y = true ↔ ∃ i, 0 ≤ i ∧ i < N.m + 1 ∧ ((zins N.lo k N.m (min a b) i = x ∧ zins N.hi k N.m (max a b) i = y) ∨ (zins N.lo k N.m (min a b) i = y ∧ zins N.hi k N.m (max a b) i = x))
    have lhs : bi (zu (zu N.bes a (N.bes a ||| sb b)) b (N.bes b ||| sb a) x) y = true ↔ bi (N.bes x) y = true ∨ (x = a ∧ y = b) ∨ (x = b ∧ y = a) := by
      unfold zu
      by_cases e1 : x = b
      · subst e1
        rw [if_pos rfl, bi_or, bi_sb ha0 (by omega) hy0 hy, Bool.or_eq_true, decide_eq_true_eq]
        constructor
        · rintro (h | h)
          · exact Or.inl h
          · exact Or.inr (Or.inr ⟨rfl, h⟩)
        · rintro (h | h | h)
          · exact Or.inl h
          · omega
          · exact Or.inr h.2
      · rw [if_neg e1]
        by_cases e2 : x = a
        · subst e2
          rw [if_pos rfl, bi_or, bi_sb hb0 (by omega) hy0 hy, Bool.or_eq_true, decide_eq_true_eq]
          constructor
          · rintro (h | h)
            · exact Or.inl h
            · exact Or.inr (Or.inl ⟨rfl, h⟩)
          · rintro (h | h | h)
            · exact Or.inl h
            · exact Or.inr h.2
            · omega
        · rw [if_neg e2]
          constructor
          · exact Or.inl
          · rintro (h | h | h)
            · exact h
            · omega
            · omega
    rw [lhs, G.bes x y hx0 hx hy0 hy]
    constructor
    · rintro (⟨i, h1, h2, h3⟩ | h | h)
      · by_cases c1 : i < k
        · exact ⟨i, h1, by omega, by rw [zins_lt c1, zins_lt c1]; exact h3⟩
        · exact ⟨i + 1, by omega, by omega, by rw [zins_gt (by omega) (by omega), zins_gt (by omega) (by omega), show i + 1 - 1 = i by omega]; exact h3⟩
      · exact ⟨k, k0, by omega, by rw [zins_at, zins_at]; omega⟩
      · exact ⟨k, k0, by omega, by rw [zins_at, zins_at]; omega⟩
    · rintro ⟨i, h1, h2, h3⟩
      by_cases c1 : i < k
      · rw [zins_lt c1, zins_lt c1] at h3
        exact Or.inl ⟨i, h1, by omega, h3⟩
      · by_cases c2 : i = k
        · subst c2
          rw [zins_at, zins_at] at h3
          omega
        · rw [zins_gt (by omega) (by omega), zins_gt (by omega) (by omega)] at h3
          exact Or.inl ⟨i - 1, by omega, by omega, h3⟩
theorem GN.remove (G : GN N) {k : Int} (hk0 : 0 ≤ k) (hk : k < N.m) : GN (nremove N k) := by
  have hm := G.w.m0
  have hm10 := G.w.m10
  have b1 := G.w.lo k
  have b2 := G.w.hi k
  have b3 := G.lh k hk0 hk
  refine ⟨⟨G.w.n0, G.w.n7, by show 0 ≤ N.m - 1; omega, by show N.m - 1 ≤ 10; omega, G.w.lab, fun i => zrem_all (P := fun x => 0 ≤ x ∧ x ≤ 6) G.w.lo, fun i => zrem_all (P := fun x => 0 ≤ x ∧ x ≤ 6) G.w.hi⟩, ?_, ?_, ?_, G.nl⟩
  · intro i h1 h2
    change i < N.m - 1 at h2
    show zrem N.lo k (N.m - 1) i < zrem N.hi k (N.m - 1) i ∧ zrem N.hi k (N.m - 1) i < N.n
    by_cases c1 : i < k
    · rw [zrem_lt c1, zrem_lt c1]
      exact G.lh i h1 (by omega)
    · rw [zrem_ge (by omega) h2, zrem_ge (by omega) h2]
      exact G.lh (i + 1) (by omega) (by omega)
  · intro i l h1 h2 h3
    change l < N.m - 1 at h3
    show 8 * zrem N.lo k (N.m - 1) i + zrem N.hi k (N.m - 1) i < 8 * zrem N.lo k (N.m - 1) l + zrem N.hi k (N.m - 1) l
    by_cases c1 : i < k
    · rw [zrem_lt c1, zrem_lt c1]
      by_cases d1 : l < k
      · rw [zrem_lt d1, zrem_lt d1]
        exact G.inc i l h1 h2 (by omega)
      · rw [zrem_ge (by omega) h3, zrem_ge (by omega) h3]
        exact G.inc i (l + 1) h1 (by omega) (by omega)
    · rw [zrem_ge (by omega) (by omega), zrem_ge (by omega) (by omega), zrem_ge (by omega) h3, zrem_ge (by omega) h3]
      exact G.inc (i + 1) (l + 1) (by omega) (by omega) (by omega)
  · intro x y hx0 hx hy0 hy
    show bi (zu (zu N.bes (N.lo k) (N.bes (N.lo k) &&& (sb (N.hi k) ^^^ qI (-1)))) (N.hi k) (N.bes (N.hi k) &&& (sb (N.lo k) ^^^ qI (-1))) x) y = true ↔ ∃ i, 0 ≤ i ∧ i < N.m - 1 ∧ ((zrem N.lo k (N.m - 1) i = x ∧ zrem N.hi k (N.m - 1) i = y) ∨ (zrem N.lo k (N.m - 1) i = y ∧ zrem N.hi k (N.m - 1) i = x))
    have lhs : bi (zu (zu N.bes (N.lo k) (N.bes (N.lo k) &&& (sb (N.hi k) ^^^ qI (-1)))) (N.hi k) (N.bes (N.hi k) &&& (sb (N.lo k) ^^^ qI (-1))) x) y = true ↔ bi (N.bes x) y = true ∧ ¬ ((x = N.lo k ∧ y = N.hi k) ∨ (x = N.hi k ∧ y = N.lo k)) := by
      unfold zu
      by_cases e1 : x = N.hi k
      · rw [if_pos e1, bi_and, bi_xor, bi_sb (by omega) (by omega) hy0 hy, bi_m1 hy0 hy, Bool.and_eq_true, e1]
        by_cases e3 : y = N.lo k
        · simp [e3]
        · simp [e3]
          intro _ h4
          omega
      · rw [if_neg e1]
        by_cases e2 : x = N.lo k
        · rw [if_pos e2, bi_and, bi_xor, bi_sb (by omega) (by omega) hy0 hy, bi_m1 hy0 hy, Bool.and_eq_true, e2]
          by_cases e3 : y = N.hi k
          · simp [e3]
          · simp [e3]
            intro _ h4
            omega
        · rw [if_neg e2]
          constructor
          · intro h
            exact ⟨h, by omega⟩
          · exact fun h => h.1
    rw [lhs, G.bes x y hx0 hx hy0 hy]
    constructor
    · rintro ⟨⟨i, h1, h2, h3⟩, h4⟩
      have hne : i ≠ k := by
        intro e
        subst e
        omega
      by_cases c1 : i < k
      · exact ⟨i, h1, by omega, by rw [zrem_lt c1, zrem_lt c1]; exact h3⟩
      · exact ⟨i - 1, by omega, by omega, by rw [zrem_ge (by omega) (by omega), zrem_ge (by omega) (by omega), show i - 1 + 1 = i by omega]; exact h3⟩
    · rintro ⟨i, h1, h2, h3⟩
      by_cases c1 : i < k
      · rw [zrem_lt c1, zrem_lt c1] at h3
        refine ⟨⟨i, h1, by omega, h3⟩, fun h4 => ?_⟩
        have := G.inc i k h1 c1 hk
        have := G.lh i h1 (by omega)
        omega
      · rw [zrem_ge (by omega) h2, zrem_ge (by omega) h2] at h3
        refine ⟨⟨i + 1, by omega, by omega, h3⟩, fun h4 => ?_⟩
        have := G.inc k (i + 1) hk0 (by omega) (by omega)
        have := G.lh (i + 1) (by omega) (by omega)
        omega
/-- labels changed -/
theorem GN.relab (G : GN N) {f : Int → Int} (hf : ∀ p, -1 ≤ f p ∧ f p ≤ 99) (hn : ∀ p, 0 < N.n → N.n ≤ p → p < 7 → f p = -1) : GN (NR.mk N.n N.m N.lo N.hi f N.bes) :=
  ⟨⟨G.w.n0, G.w.n7, G.w.m0, G.w.m10, hf, G.w.lo, G.w.hi⟩, G.lh, G.inc, G.bes, hn⟩
end
