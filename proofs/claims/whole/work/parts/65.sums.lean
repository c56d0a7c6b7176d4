/-! SUMS -/
theorem z_runP {R W : Type} (P : Int → W → Prop) (X : Int → W → R) {a n : Int} (hn : a ≤ n) (hstep : ∀ i w, a ≤ i → i < n → P i w → ∃ w', P (i + 1) w' ∧ X i w = X (i + 1) w') (w : W) (h0 : P a w) : ∃ w', P n w' ∧ X a w = X n w' := by
  obtain ⟨k, hk⟩ : ∃ k : Nat, n = a + k := ⟨(n - a).toNat, by omega⟩
  subst hk
  induction k with
  | zero => exact ⟨w, by simpa using h0, by simp⟩
  | succ k ih =>
    obtain ⟨w1, p1, h1⟩ := ih (by omega) (fun i w h1 h2 => hstep i w h1 (by omega))
    obtain ⟨w2, p2, h2⟩ := hstep (a + k) w1 (by omega) (by omega) p1
    have e : a + ((k + 1 : Nat) : Int) = a + k + 1 := by omega
    exact ⟨w2, by rw [e]; exact p2, h1.trans (h2.trans (by rw [e]))⟩
theorem zsum_congr {f h : Int → Int} {n : Int} (e : ∀ k, 0 ≤ k → k < n → f k = h k) (h0 : 0 ≤ n) : zsum f n = zsum h n :=
  zfold_congr (n := n) (fun i h1 h2 x => by rw [e i h1 h2]) h0 (by omega)
theorem zcnt_congr {p q : Int → Bool} {n : Int} (e : ∀ k, 0 ≤ k → k < n → p k = q k) (h0 : 0 ≤ n) : zcnt p n = zcnt q n :=
  zfold_congr (n := n) (fun i h1 h2 x => by rw [e i h1 h2]) h0 (by omega)
theorem zset_congr {p q : Int → Bool} {n : Int} (e : ∀ k, 0 ≤ k → k < n → p k = q k) (h0 : 0 ≤ n) : zset p n = zset q n :=
  zfold_congr (n := n) (fun i h1 h2 x => by rw [e i h1 h2]) h0 (by omega)
theorem zsum_add (f h : Int → Int) {n : Int} (h0 : 0 ≤ n) : zsum (fun k => f k + h k) n = zsum f n + zsum h n := by
  refine z_ind (P := fun n => zsum (fun k => f k + h k) n = zsum f n + zsum h n) rfl (fun i hi ih => ?_) h0
  rw [zsum_s _ hi, zsum_s _ hi, zsum_s _ hi, ih]
  omega
theorem zsum_mul (c : Int) (f : Int → Int) {n : Int} (h0 : 0 ≤ n) : zsum (fun k => c * f k) n = c * zsum f n := by
  refine z_ind (P := fun n => zsum (fun k => c * f k) n = c * zsum f n) (by rw [zsum_0, zsum_0]; omega) (fun i hi ih => ?_) h0
  rw [zsum_s _ hi, zsum_s _ hi, ih, Int.mul_add]
theorem zsum_zero {f : Int → Int} {n : Int} (h0 : 0 ≤ n) (e : ∀ k, 0 ≤ k → k < n → f k = 0) : zsum f n = 0 := by
  rw [zsum_congr (h := fun _ => 0) e h0]
  refine z_ind (P := fun n => zsum (fun _ => 0) n = 0) rfl (fun i hi ih => ?_) h0
  rw [zsum_s _ hi, ih]
  omega
theorem zsum_swap (f : Int → Int → Int) {n m : Int} (hn : 0 ≤ n) (hm : 0 ≤ m) : zsum (fun p => zsum (fun i => f p i) m) n = zsum (fun i => zsum (fun p => f p i) n) m := by
  refine z_ind (P := fun n => zsum (fun p => zsum (fun i => f p i) m) n = zsum (fun i => zsum (fun p => f p i) n) m) ?_ (fun p hp ih => ?_) hn
  · rw [zsum_0]
    exact (zsum_zero hm (fun _ _ _ => rfl)).symm
  · rw [zsum_s _ hp, ih, ← zsum_add _ _ hm]
    exact zsum_congr (fun k _ _ => (zsum_s _ hp).symm) hm
theorem zsum_one {f : Int → Int} {n a : Int} (h0 : 0 ≤ a) (h1 : a < n) (e : ∀ k, 0 ≤ k → k < n → k ≠ a → f k = 0) : zsum f n = f a := by
  have key : ∀ n, 0 ≤ n → (∀ k, 0 ≤ k → k < n → k ≠ a → f k = 0) → zsum f n = if a < n then f a else 0 := by
    intro n hn
    refine z_ind (P := fun n => (∀ k, 0 ≤ k → k < n → k ≠ a → f k = 0) → zsum f n = if a < n then f a else 0) (fun _ => ?_) (fun i hi ih he => ?_) hn
    · rw [zsum_0, if_neg (by omega)]
    · rw [zsum_s _ hi, ih (fun k h1 h2 h3 => he k h1 (by omega) h3)]
      by_cases h2 : a = i
      · subst h2
        rw [if_neg (by omega), if_pos (by omega)]
        omega
      · rw [he i hi (by omega) (Ne.symm h2)]
        by_cases h3 : a < i
        · rw [if_pos h3, if_pos (by omega)]
          omega
        · rw [if_neg h3, if_neg (by omega)]
          omega
  rw [key n (by omega) e, if_pos h1]
theorem zcnt_sum (p : Int → Bool) {n : Int} (h0 : 0 ≤ n) : zcnt p n = zsum (fun k => if p k = true then 1 else 0) n := by
  refine z_ind (P := fun n => zcnt p n = zsum (fun k => if p k = true then 1 else 0) n) rfl (fun i hi ih => ?_) h0
  rw [zcnt_s _ hi, zsum_s _ hi, ih]
  split <;> omega
theorem zcnt_zero {p : Int → Bool} {n : Int} (h0 : 0 ≤ n) (e : ∀ k, 0 ≤ k → k < n → p k = false) : zcnt p n = 0 := by
  rw [zcnt_sum p h0, zsum_zero h0 (fun k h1 h2 => by rw [e k h1 h2]; rfl)]
theorem zcnt_one {p : Int → Bool} {n a : Int} (h0 : 0 ≤ a) (h1 : a < n) (hp : p a = true) (e : ∀ k, 0 ≤ k → k < n → k ≠ a → p k = false) : zcnt p n = 1 := by
  rw [zcnt_sum p (by omega), zsum_one h0 h1 (fun k h2 h3 h4 => by rw [e k h2 h3 h4]; rfl), if_pos hp]
/-- beyond b there is none -/
theorem zcnt_cut {p : Int → Bool} {n b : Int} (hb : 0 ≤ b) (hbn : b ≤ n) (e : ∀ k, b ≤ k → k < n → p k = false) : zcnt p n = zcnt p b := by
  obtain ⟨j, hj⟩ : ∃ j : Nat, n = b + j := ⟨(n - b).toNat, by omega⟩
  subst hj
  induction j with
  | zero => simp
  | succ j ih =>
    have e2 : b + ((j + 1 : Nat) : Int) = b + j + 1 := by omega
    rw [e2, zcnt_s _ (by omega), e (b + j) (by omega) (by omega)]
    rw [if_neg (by decide)]
    exact ih (by omega) (fun k h1 h2 => e k h1 (by omega))
theorem zsum_cut {f : Int → Int} {n b : Int} (hb : 0 ≤ b) (hbn : b ≤ n) (e : ∀ k, b ≤ k → k < n → f k = 0) : zsum f n = zsum f b := by
  obtain ⟨j, hj⟩ : ∃ j : Nat, n = b + j := ⟨(n - b).toNat, by omega⟩
  subst hj
  induction j with
  | zero => simp
  | succ j ih =>
    have e2 : b + ((j + 1 : Nat) : Int) = b + j + 1 := by omega
    rw [e2, zsum_s _ (by omega), e (b + j) (by omega) (by omega), ih (by omega) (fun k h1 h2 => e k h1 (by omega))]
    omega
theorem zsum_nonneg {f : Int → Int} {n : Int} (h0 : 0 ≤ n) (e : ∀ k, 0 ≤ k → k < n → 0 ≤ f k) : 0 ≤ zsum f n := by
  have key : ∀ n, 0 ≤ n → (∀ k, 0 ≤ k → k < n → 0 ≤ f k) → 0 ≤ zsum f n := by
    intro n hn
    refine z_ind (P := fun n => (∀ k, 0 ≤ k → k < n → 0 ≤ f k) → 0 ≤ zsum f n) (fun _ => by rw [zsum_0]; omega) (fun i hi ih he => ?_) hn
    rw [zsum_s _ hi]
    have := ih (fun k h1 h2 => he k h1 (by omega))
    have := he i hi (by omega)
    omega
  exact key n h0 e
/-! GOOD NETS: lines in their order, and the sets that go with them -/
abbrev GN (N : NR) : Prop := (WN N) ∧ (∀ i, 0 ≤ i → i < N.m → N.lo i < N.hi i ∧ N.hi i < N.n) ∧ (∀ i k, 0 ≤ i → i < k → k < N.m → 8 * N.lo i + N.hi i < 8 * N.lo k + N.hi k) ∧ (∀ a b, 0 ≤ a → a < 7 → 0 ≤ b → b < 32 → (bi (N.bes a) b = true ↔ ∃ i, 0 ≤ i ∧ i < N.m ∧ ((N.lo i = a ∧ N.hi i = b) ∨ (N.lo i = b ∧ N.hi i = a)))) ∧ (∀ p, 0 < N.n → N.n ≤ p → p < 7 → N.lab p = -1)
theorem GN.w {N : NR} (zz : GN N) : WN N := zz.1
theorem GN.lh {N : NR} (zz : GN N) : ∀ i, 0 ≤ i → i < N.m → N.lo i < N.hi i ∧ N.hi i < N.n := zz.2.1
theorem GN.inc {N : NR} (zz : GN N) : ∀ i k, 0 ≤ i → i < k → k < N.m → 8 * N.lo i + N.hi i < 8 * N.lo k + N.hi k := zz.2.2.1
theorem GN.bes {N : NR} (zz : GN N) : ∀ a b, 0 ≤ a → a < 7 → 0 ≤ b → b < 32 → (bi (N.bes a) b = true ↔ ∃ i, 0 ≤ i ∧ i < N.m ∧ ((N.lo i = a ∧ N.hi i = b) ∨ (N.lo i = b ∧ N.hi i = a))) := zz.2.2.2.1
theorem GN.nl {N : NR} (zz : GN N) : ∀ p, 0 < N.n → N.n ≤ p → p < 7 → N.lab p = -1 := zz.2.2.2.2
section
variable {N : NR}
theorem GN.inj (G : GN N) {i k : Int} (h1 : 0 ≤ i) (h2 : i < N.m) (h3 : 0 ≤ k) (h4 : k < N.m) (e1 : N.lo i = N.lo k) (e2 : N.hi i = N.hi k) : i = k := by
  by_cases h : i < k
  · have := G.inc i k h1 h h4
    omega
  · by_cases h' : k < i
    · have := G.inc k i h3 h' h2
      omega
    · omega
/-- a line between a and b -/
def isE (N : NR) (a b i : Int) : Bool := decide ((N.lo i = a ∧ N.hi i = b) ∨ (N.lo i = b ∧ N.hi i = a))
theorem GN.one (G : GN N) {a b i k : Int} (h1 : 0 ≤ i) (h2 : i < N.m) (h3 : 0 ≤ k) (h4 : k < N.m) (e1 : isE N a b i = true) (e2 : isE N a b k = true) : i = k := by
  unfold isE at e1 e2
  have e1 := of_decide_eq_true e1
  have e2 := of_decide_eq_true e2
  have g1 := G.lh i h1 h2
  have g2 := G.lh k h3 h4
  exact G.inj h1 h2 h3 h4 (by omega) (by omega)
theorem GN.bit (G : GN N) {a b : Int} (ha0 : 0 ≤ a) (ha : a < 7) (hb0 : 0 ≤ b) (hb : b < 32) : (if bi (N.bes a) b = true then (1 : Int) else 0) = zsum (fun i => if isE N a b i = true then 1 else 0) N.m := by
  by_cases h : bi (N.bes a) b = true
  · rw [if_pos h]
    obtain ⟨i, h1, h2, h3⟩ := (G.bes a b ha0 ha hb0 hb).mp h
    have h4 : isE N a b i = true := decide_eq_true h3
    rw [zsum_one h1 h2 (fun k h5 h6 h7 => if_neg (fun q => h7 (G.one h5 h6 h1 h2 q h4))), if_pos h4]
  · rw [if_neg h]
    exact (zsum_zero G.w.m0 (fun k h1 h2 => if_neg (fun q => h ((G.bes a b ha0 ha hb0 hb).mpr ⟨k, h1, h2, of_decide_eq_true q⟩)))).symm
theorem GN.sym (G : GN N) {a b : Int} (ha0 : 0 ≤ a) (ha : a < 7) (hb0 : 0 ≤ b) (hb : b < 7) : bi (N.bes a) b = bi (N.bes b) a := by
  have h1 := G.bes a b ha0 ha hb0 (by omega)
  have h2 := G.bes b a hb0 hb ha0 (by omega)
  have : bi (N.bes a) b = true ↔ bi (N.bes b) a = true := by
    rw [h1, h2]
    constructor
    · rintro ⟨i, g1, g2, g3⟩
      exact ⟨i, g1, g2, g3.symm⟩
    · rintro ⟨i, g1, g2, g3⟩
      exact ⟨i, g1, g2, g3.symm⟩
  cases e1 : bi (N.bes a) b <;> cases e2 : bi (N.bes b) a <;> simp_all
theorem GN.irr (G : GN N) {a : Int} (ha0 : 0 ≤ a) (ha : a < 7) : bi (N.bes a) a = false := by
  cases h : bi (N.bes a) a with
  | false => rfl
  | true =>
    obtain ⟨i, h1, h2, h3⟩ := (G.bes a a ha0 ha ha0 (by omega)).mp h
    have := G.lh i h1 h2
    omega
theorem GN.rng (G : GN N) {a b : Int} (ha0 : 0 ≤ a) (ha : a < 7) (hb0 : 0 ≤ b) (hb : b < 32) (h : bi (N.bes a) b = true) : a < N.n ∧ b < N.n ∧ a ≠ b := by
  obtain ⟨i, h1, h2, h3⟩ := (G.bes a b ha0 ha hb0 hb).mp h
  have := G.lh i h1 h2
  omega
theorem GN.out (G : GN N) {a b : Int} (ha0 : 0 ≤ a) (ha : a < 7) (hb0 : N.n ≤ b) (hb : b < 32) : bi (N.bes a) b = false := by
  cases h : bi (N.bes a) b with
  | false => rfl
  | true =>
    have h0 := G.w.n0
    have := G.rng ha0 ha (by omega) hb h
    omega
/-- how many lines a point has -/
def deg (N : NR) (p : Int) : Int := zcnt (fun i => decide (N.lo i = p) || decide (N.hi i = p)) N.m
theorem GN.card (G : GN N) {p : Int} (h0 : 0 ≤ p) (h1 : p < 7) : card (N.bes p) = deg N p := by
  have hm := G.w.m0
  unfold Jvm.Pilot.CFairLabelsLaw_law_r8514_2f2354.card deg
  rw [zcnt_sum _ (by omega), zcnt_sum _ hm, zsum_congr (fun q h2 h3 => G.bit h0 h1 h2 (show q < 32 by omega)) (by omega), zsum_swap _ (by omega) hm]
  refine zsum_congr (fun i h2 h3 => ?_) hm
  have g1 := G.lh i h2 h3
  have g2 := G.w.lo i
  have g3 := G.w.hi i
  by_cases e1 : N.lo i = p
  · rw [zsum_one (a := N.hi i) (by omega) (by omega) (fun k h4 h5 h6 => if_neg (by unfold isE; simp; omega)), if_pos (by unfold isE; simp; omega), if_pos (by simp [e1])]
  · by_cases e2 : N.hi i = p
    · rw [zsum_one (a := N.lo i) (by omega) (by omega) (fun k h4 h5 h6 => if_neg (by unfold isE; simp; omega)), if_pos (by unfold isE; simp; omega), if_pos (by simp [e2])]
    · rw [zsum_zero (by omega) (fun k h4 h5 => if_neg (by unfold isE; simp; omega)), if_neg (by simp [e1, e2])]
/-- points by their lines, lines by their points -/
theorem GN.both (G : GN N) (f : Int → Int) : zsum (fun p => deg N p * f p) N.n = zsum (fun i => f (N.lo i) + f (N.hi i)) N.m := by
  have hm := G.w.m0
  have hn := G.w.n0
  have e1 : ∀ p, 0 ≤ p → p < N.n → deg N p * f p = zsum (fun i => f p * (if (decide (N.lo i = p) || decide (N.hi i = p)) = true then 1 else 0)) N.m := by
    intro p _ _
    unfold deg
    rw [zcnt_sum _ hm, zsum_mul _ _ hm, Int.mul_comm]
  rw [zsum_congr e1 hn, zsum_swap _ hn hm]
  refine zsum_congr (fun i h2 h3 => ?_) hm
  have g1 := G.lh i h2 h3
  have g2 := G.w.lo i
  have g3 := G.w.hi i
  have e2 : ∀ p, 0 ≤ p → p < N.n → f p * (if (decide (N.lo i = p) || decide (N.hi i = p)) = true then 1 else 0) = (if N.lo i = p then f p else 0) + (if N.hi i = p then f p else 0) := by
    intro p _ _
    by_cases h4 : N.lo i = p
    · have h5 : ¬ N.hi i = p := by omega
      simp [h4, h5]
    · by_cases h5 : N.hi i = p <;> simp [h4, h5]
  rw [zsum_congr e2 hn, zsum_add _ _ hn, zsum_one (a := N.lo i) (by omega) (by omega) (fun k _ _ h => if_neg (Ne.symm h)), zsum_one (a := N.hi i) (by omega) (by omega) (fun k _ _ h => if_neg (Ne.symm h)), if_pos rfl, if_pos rfl]
theorem GN.hands (G : GN N) : zsum (deg N) N.n = 2 * N.m := by
  have h := G.both (fun _ => 1)
  rw [zsum_congr (h := deg N) (fun k _ _ => by simp) G.w.n0] at h
  rw [h]
  have key : ∀ m : Int, 0 ≤ m → zsum (fun _ => (1 : Int) + 1) m = 2 * m := by
    intro m hm
    refine z_ind (P := fun m => zsum (fun _ => (1 : Int) + 1) m = 2 * m) rfl (fun i hi ih => ?_) hm
    rw [zsum_s _ hi, ih]
    omega
  exact key _ G.w.m0
theorem deg_bd (N : NR) (p : Int) (h : 0 ≤ N.m) : 0 ≤ deg N p ∧ deg N p ≤ N.m := zcnt_bd _ h
/-- what findLine finds -/
theorem GN.find (G : GN N) {a b : Int} (ha0 : 0 ≤ a) (ha : a < 7) (hb0 : 0 ≤ b) (hb : b < 7) (hab : a ≠ b) : (bi (N.bes a) b = false ∧ zfind (fun i => decide (N.lo i = min a b ∧ N.hi i = max a b)) 0 N.m.toNat = none) ∨ (bi (N.bes a) b = true ∧ ∃ i, 0 ≤ i ∧ i < N.m ∧ N.lo i = min a b ∧ N.hi i = max a b ∧ zfind (fun i => decide (N.lo i = min a b ∧ N.hi i = max a b)) 0 N.m.toNat = some i) := by
  have hm := G.w.m0
  cases h : zfind (fun i => decide (N.lo i = min a b ∧ N.hi i = max a b)) 0 N.m.toNat with
  | none =>
    left
    refine ⟨?_, rfl⟩
    cases hb1 : bi (N.bes a) b with
    | false => rfl
    | true =>
      obtain ⟨i, h1, h2, h3⟩ := (G.bes a b ha0 ha hb0 (by omega)).mp hb1
      have h4 := of_decide_eq_false (zfind_none h i h1 (by omega))
      have := G.lh i h1 h2
      omega
  | some i =>
    obtain ⟨h1, h2, h3, h4⟩ := zfind_some h
    have h3 := of_decide_eq_true h3
    right
    refine ⟨(G.bes a b ha0 ha hb0 (by omega)).mpr ⟨i, h1, by omega, by omega⟩, i, h1, by omega, h3.1, h3.2, rfl⟩
end
