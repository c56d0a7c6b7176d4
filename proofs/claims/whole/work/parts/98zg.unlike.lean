/-! UNLIKE: what is counted -/
theorem em_sub {a m : Int} (h0 : m ≤ a) (h1 : a < 2 * m) : a % m = a - m := by
  have e : (a - m) % m = a - m := Int.emod_eq_of_lt (by omega) (by omega)
  rw [← e, Int.sub_emod, Int.emod_self, Int.sub_zero, Int.emod_emod]
theorem fsd_z {f : Int → Int} {q : Int} (q0 : 0 ≤ q) : fsd f q = 0 ↔ ∀ p, 0 ≤ p → p < q → f p = 0 := by
  refine z_ind (P := fun q => fsd f q = 0 ↔ ∀ p, 0 ≤ p → p < q → f p = 0) ⟨fun _ p p0 p1 => absurd p1 (by omega), fun _ => rfl⟩ (fun i hi ih => ?_) q0
  rw [fsd_s _ hi]
  constructor
  · intro h p p0 p1
    by_cases z : fsd f i = 0
    · rw [if_pos z] at h
      by_cases e : p = i
      · rw [e]
        exact h
      · exact ih.mp z p p0 (by omega)
    · rw [if_neg z] at h
      exact absurd h z
  · intro h
    rw [if_pos (ih.mpr (fun p p0 p1 => h p p0 (by omega)))]
    exact h i hi (by omega)
theorem fsd_neg {f h : Int → Int} {q : Int} (q0 : 0 ≤ q) (e : ∀ p, 0 ≤ p → p < q → h p = - f p) : fsd h q = - fsd f q := by
  have key : ∀ i, 0 ≤ i → i ≤ q → fsd h i = - fsd f i := fun i i0 => by
    refine z_ind (P := fun i => i ≤ q → fsd h i = - fsd f i) (fun _ => rfl) (fun i hi ih hq => ?_) i0
    rw [fsd_s _ hi, fsd_s _ hi, ih (by omega), e i hi (by omega)]
    by_cases z : fsd f i = 0
    · rw [if_pos (by omega), if_pos z]
    · rw [if_neg (by omega), if_neg z]
  exact key q q0 (Int.le_refl _)
theorem fsd_cg {f h : Int → Int} {q : Int} (q0 : 0 ≤ q) (e : ∀ p, 0 ≤ p → p < q → f p = h p) : fsd f q = fsd h q := zfold_congr (fun i i0 i1 x => by rw [e i i0 i1]) q0 (Int.le_refl _)
theorem fsd_1 {f : Int → Int} {q : Int} (q1 : 1 ≤ q) (h : f 0 ≠ 0) : fsd f q = f 0 := by
  have key : ∀ i, 0 ≤ i → fsd f (i + 1) = f 0 := fun i i0 => by
    refine z_ind (P := fun i => fsd f (i + 1) = f 0) rfl (fun i hi ih => ?_) i0
    rw [fsd_s _ (by omega), ih, if_neg h]
  have := key (q - 1) (by omega)
  rw [show q - 1 + 1 = q by omega] at this
  exact this
section
variable {N : NR} {k : Int}
theorem go_unl : ∀ (A : List (Int → Int)) (s : Sk), (A.foldl (gone N k) s).unl = s.unl + ((A.countP (fun L => fol N L s.want k) : Nat) : Int)
  | [], s => by show s.unl = s.unl + ((0 : Nat) : Int); omega
  | L :: A, s => by
    rw [List.foldl_cons, go_unl A (gone N k s L), List.countP_cons]
    show s.unl + (if fol N L s.want k = true then 1 else 0) + ((A.countP (fun M => fol N M s.want k) : Nat) : Int) = _
    by_cases h : fol N L s.want k = true
    · rw [if_pos h, if_pos h]
      omega
    · rw [if_neg h, if_neg h]
      omega
theorem fol_cg {L M W V : Int → Int} (n0 : 0 ≤ N.n) (e : ∀ p, 0 ≤ p → p < N.n → L p = M p) (w : ∀ p, 0 ≤ p → p < N.n → W p = V p) : fol N L W k = fol N M V k := by
  have h1 : lsb N L W k = lsb N M V k := funext (fun i => by
    have t : ∀ p, 0 ≤ p → p < N.n → tuV N L k i p = tuV N M k i p := fun p p0 p1 => by
      unfold tuV
      rw [e p p0 p1]
    unfold lsb
    rw [zfind_cg (q := lsP N M V k i) (fun p p0 p1 => by
      unfold lsP
      rw [t p p0 (by omega), w p p0 (by omega)]), fsd_cg (h := fun p => tuV N M k i p - M p) n0 (fun p p0 p1 => by
      show tuV N L k i p - L p = tuV N M k i p - M p
      rw [t p p0 p1, e p p0 p1])])
  unfold fol
  rw [h1]
theorem fol_iff {L W : Int → Int} : fol N L W k = true ↔ ∀ i, 1 ≤ i → i < (if k = 2 then N.m else 2) → lsb N L W k i = false := by
  unfold fol
  generalize (if k = 2 then N.m else 2) = M
  constructor
  · intro h i i1 i2
    cases hz : zfind (lsb N L W k) 1 (M - 1).toNat with
    | some z =>
      rw [hz] at h
      cases h
    | none => exact zfind_none hz i i1 (by omega)
  · intro h
    rw [zfind_no (fun i i1 i2 => h i i1 (by omega))]
    rfl
theorem lsb_no {L W : Int → Int} {i p : Int} (p0 : 0 ≤ p) (p1 : p < N.n) (h : lsP N L W k i p = true) : lsb N L W k i = false := by
  unfold lsb
  cases hz : zfind (lsP N L W k i) 0 N.n.toNat with
  | some _ => rfl
  | none =>
    have := zfind_none hz p p0 (by omega)
    rw [h] at this
    cases this
theorem lsb_all {L W : Int → Int} {i : Int} (h : ∀ p, 0 ≤ p → p < N.n → lsP N L W k i p = false) : lsb N L W k i = decide (fsd (fun p => tuV N L k i p - L p) N.n < 0) := by
  unfold lsb
  rw [zfind_no (fun p p0 p1 => h p p0 (by omega))]
end
/-! counting in lists -/
theorem cnt_not (b : List Int → Bool) : ∀ X : List (List Int), X.countP (fun x => !b x) + X.countP b = X.length
  | [] => rfl
  | x :: X => by
    have ih := cnt_not b X
    rw [List.countP_cons, List.countP_cons, List.length_cons]
    cases h : b x with
    | true =>
      rw [if_pos rfl, if_neg (by decide)]
      omega
    | false =>
      rw [if_pos (by decide), if_neg (by decide)]
      omega
theorem map_perm {X : List (List Int)} (nd : X.Nodup) {t u : List Int → List Int} (h1 : ∀ x, x ∈ X → t x ∈ X ∧ u (t x) = x) (h2 : ∀ x, x ∈ X → u x ∈ X ∧ t (u x) = x) : (X.map t).Perm X := by
  have nd2 : (X.map t).Nodup := List.pairwise_map.mpr (List.Pairwise.imp_of_mem (fun {a b} ha hb hab e => hab (by
    have := congrArg u e
    rw [(h1 a ha).2, (h1 b hb).2] at this
    exact this)) nd)
  refine (List.perm_ext_iff_of_nodup nd2 nd).mpr (fun y => ?_)
  rw [List.mem_map]
  constructor
  · rintro ⟨x, hx, rfl⟩
    exact (h1 x hx).1
  · intro hy
    exact ⟨u y, (h2 y hy).1, (h2 y hy).2⟩
theorem half_cnt {X : List (List Int)} (nd : X.Nodup) {t : List Int → List Int} {b : List Int → Bool} (ht : ∀ x, x ∈ X → t x ∈ X ∧ t (t x) = x ∧ b (t x) = !b x) : 2 * X.countP b = X.length := by
  have P := map_perm nd (t := t) (u := t) (fun x hx => ⟨(ht x hx).1, (ht x hx).2.1⟩) (fun x hx => ⟨(ht x hx).1, (ht x hx).2.1⟩)
  have e1 := P.countP_eq b
  rw [List.countP_map] at e1
  have e2 : X.countP (b ∘ t) = X.countP (fun x => !b x) := List.countP_congr (fun x hx => by
    show b (t x) = true ↔ _
    rw [(ht x hx).2.2])
  have e3 := cnt_not b X
  omega
theorem cnt_split {f : List Int → Int} {m : Int} (m0 : 0 ≤ m) : ∀ X : List (List Int), (∀ x, x ∈ X → 0 ≤ f x ∧ f x < m) → (X.length : Int) = zsum (fun v => ((X.countP (fun x => decide (f x = v)) : Nat) : Int)) m
  | [], _ => (zsum_zero m0 (fun _ _ _ => rfl)).symm
  | x :: X, h => by
    have ih := cnt_split m0 X (fun y hy => h y (List.mem_cons_of_mem x hy))
    have hx := h x List.mem_cons_self
    have e : ∀ v, 0 ≤ v → v < m → (((x :: X).countP (fun x => decide (f x = v)) : Nat) : Int) = ((X.countP (fun x => decide (f x = v)) : Nat) : Int) + (if v = f x then 1 else 0) := fun v _ _ => by
      rw [List.countP_cons]
      by_cases a : f x = v
      · rw [if_pos (decide_eq_true a), if_pos a.symm]
        omega
      · rw [if_neg (by rw [decide_eq_false a]; decide), if_neg (fun q => a q.symm)]
        omega
    rw [zsum_congr e m0, zsum_add _ _ m0, ← ih, zsum_one (f := fun v => if v = f x then (1 : Int) else 0) hx.1 hx.2 (fun v _ _ hv => if_neg hv), if_pos rfl, List.length_cons]
    omega
theorem cnt_even {f : List Int → Int} {m : Int} (m1 : 1 ≤ m) {X : List (List Int)} (h : ∀ x, x ∈ X → 0 ≤ f x ∧ f x < m) {C : Nat} (hC : ∀ v, 0 ≤ v → v < m → X.countP (fun x => decide (f x = v)) = C) : (X.length : Int) / m = C := by
  have e1 := cnt_split (f := f) (show 0 ≤ m by omega) X h
  have e2 := zsum_bd (f := fun v => ((X.countP (fun x => decide (f x = v)) : Nat) : Int)) (n := m) (a := C) (b := C) (fun v v0 v1 => by
    have := hC v v0 v1
    show (C : Int) ≤ ((X.countP (fun x => decide (f x = v)) : Nat) : Int) ∧ ((X.countP (fun x => decide (f x = v)) : Nat) : Int) ≤ C
    omega) (i := m) (by omega) (Int.le_refl _)
  have e3 : (X.length : Int) = C * m := by omega
  rw [e3, Int.mul_ediv_cancel _ (by omega)]
