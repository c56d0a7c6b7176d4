/-! THE REFERENCE'S SEARCH: all labelings in its order -/
theorem zfind_cg {p q : Int → Bool} : ∀ {k : Nat} {a : Int}, (∀ i, a ≤ i → i < a + k → p i = q i) → zfind p a k = zfind q a k
  | 0, _, _ => rfl
  | k + 1, a, h => by
    unfold zfind
    rw [h a (by omega) (by omega), zfind_cg (k := k) (a := a + 1) (fun i h1 h2 => h i (by omega) (by omega))]
theorem nw_cg {f h : Int → Int} {i : Int} (i0 : 0 ≤ i) (e : ∀ q, 0 ≤ q → q ≤ i → f q = h q) : nw f i = nw h i := by
  unfold nw
  rw [zfind_cg (q := fun j => decide (h j = h i)) (fun j h1 h2 => by rw [e j (by omega) (by omega), e i i0 (by omega)])]
theorem dbl_cg {L M : Int → Int} {q : Int} (q0 : 0 ≤ q) (e : ∀ p, 0 ≤ p → p < q → L p = M p) : dbl L q = dbl M q := by
  unfold dbl
  exact zcnt_congr (fun p p0 p1 => by rw [nw_cg p0 (fun t t0 t1 => e t t0 (by omega))]) q0
theorem als_cg {L M : Int → Int} {k q : Int} {tr : Bool} (q0 : 0 ≤ q) (e : ∀ p, 0 ≤ p → p < q → L p = M p) : als L k q tr = als M k q tr := by
  unfold als
  rw [dbl_cg q0 e]
section
variable {N : NR} {L M W : Int → Int} {k q : Int}
theorem dif_cg (G : GN N) (e : ∀ p, 0 ≤ p → p < q → L p = M p) {i : Int} (i0 : 0 ≤ i) (i1 : i < N.m) (h : N.hi i < q) : dif N L i = dif N M i := by
  have h1 := G.lh i i0 i1
  have h2 := G.w.lo i
  unfold dif
  rw [e (N.lo i) (by omega) (by omega), e (N.hi i) (by omega) h]
theorem wof_cg (G : GN N) (e : ∀ p, 0 ≤ p → p < q → L p = M p) {i : Int} (i0 : 0 ≤ i) (i1 : i < N.m) (h : N.hi i < q) : wof N L k i = wof N M k i := by
  have h1 := G.lh i i0 i1
  have h2 := G.w.lo i
  unfold wof
  rw [dif_cg G e i0 i1 h, e (N.lo i) (by omega) (by omega), e (N.hi i) (by omega) h]
theorem lk_cg (G : GN N) (e : ∀ p, 0 ≤ p → p < q → L p = M p) : lk N L k q = lk N M k q := by
  have m0 := G.w.m0
  unfold lk
  rw [zfind_cg (q := lkp N M k q) (fun i i0 i1 => by
    unfold lkp
    by_cases h : N.hi i < q
    · rw [zfind_cg (q := fun j => decide (N.hi j < q ∧ wof N M k j = wof N M k i)) (fun j j0 j1 => by
        by_cases h' : N.hi j < q
        · rw [wof_cg G e j0 (by omega) h', wof_cg G e i0 (by omega) h]
        · rw [decide_eq_false (fun x => h' x.1), decide_eq_false (fun x => h' x.1)])]
    · rw [decide_eq_false h]
      rfl)]
theorem lals_cg (G : GN N) (e : ∀ p, 0 ≤ p → p < q → L p = M p) : lals N L k q = lals N M k q := by
  unfold lals
  rw [lk_cg G e]
theorem oddq_cg (G : GN N) (e : ∀ p, 0 ≤ p → p < q → L p = M p) : oddq N L q = oddq N M q := by
  have m0 := G.w.m0
  unfold oddq
  rw [zfind_cg (q := fun i => decide (N.hi i < q ∧ dif N M i % 2 = 0)) (fun i i0 i1 => by
    by_cases h : N.hi i < q
    · rw [dif_cg G e i0 (by omega) h]
    · rw [decide_eq_false (fun x => h x.1), decide_eq_false (fun x => h x.1)])]
end
/-- a label may stand at p, with what stands before it -/
def okv (N : NR) (W : Int → Int) (k p : Int) (L : Int → Int) : Bool := (decide (W p = -1) || decide (W p = L p)) && (!als L k (p + 1) (isTr N) && (!lals N L k (p + 1) && (!decide (k = 3) || oddq N L (p + 1))))
theorem okv_cg {N : NR} (G : GN N) {W L M : Int → Int} {k p : Int} (p0 : 0 ≤ p) (e : ∀ q, 0 ≤ q → q < p + 1 → L q = M q) : okv N W k p L = okv N W k p M := by
  unfold okv
  rw [als_cg (by omega) e, lals_cg G e, oddq_cg G e, e p p0 (by omega)]
def enr {X : Type} (f : Int → List X) : Nat → Int → List X
  | 0, _ => []
  | t + 1, l => f l ++ enr f t (l + 1)
theorem enr_cg {X : Type} {f h : Int → List X} (e : ∀ l, f l = h l) : ∀ (t : Nat) (l : Int), enr f t l = enr h t l
  | 0, _ => rfl
  | t + 1, l => by rw [enr, enr, e l, enr_cg e t (l + 1)]
theorem enr_len {X : Type} {f : Int → List X} {b : Nat} (e : ∀ l, (f l).length ≤ b) : ∀ (t : Nat) (l : Int), (enr f t l).length ≤ t * b
  | 0, _ => Nat.zero_le _
  | t + 1, l => by
    rw [enr, List.length_append, Nat.add_mul, Nat.one_mul]
    have h1 := e l
    have h2 := enr_len e t (l + 1)
    omega
theorem enr_mem {X : Type} {f : Int → List X} {x : X} : ∀ (t : Nat) (l : Int), x ∈ enr f t l ↔ ∃ v, l ≤ v ∧ v < l + t ∧ x ∈ f v
  | 0, l => by
    rw [enr]
    constructor
    · intro h
      cases h
    · intro ⟨v, h1, h2, _⟩
      omega
  | t + 1, l => by
    rw [enr, List.mem_append, enr_mem t (l + 1)]
    constructor
    · intro h
      rcases h with h | ⟨v, h1, h2, h3⟩
      · exact ⟨l, by omega, by omega, h⟩
      · exact ⟨v, by omega, by omega, h3⟩
    · intro ⟨v, h1, h2, h3⟩
      by_cases hv : v = l
      · subst hv
        exact Or.inl h3
      · exact Or.inr ⟨v, by omega, by omega, h3⟩
def enu (N : NR) (W : Int → Int) (k : Int) : Nat → (Int → Int) → List (Int → Int)
  | 0, L => if els N L k (isTr N) = true then [L] else []
  | j + 1, L => enr (fun l => if okv N W k (N.n - (j + 1)) (zu L (N.n - (j + 1)) l) = true then enu N W k j (zu L (N.n - (j + 1)) l) else []) (mst N k + 1).toNat 0
theorem enu_cg {N : NR} (G : GN N) {W : Int → Int} {k : Int} : ∀ (j : Nat) {L M : Int → Int}, (j : Int) ≤ N.n → (∀ q, q < N.n - j ∨ N.n ≤ q → L q = M q) → enu N W k j L = enu N W k j M
  | 0, L, M, _, e => by
    have : L = M := funext (fun q => e q (by omega))
    rw [this]
  | j + 1, L, M, hj, e => by
    have e1 : ∀ l q, q < N.n - j ∨ N.n ≤ q → zu L (N.n - (j + 1)) l q = zu M (N.n - (j + 1)) l q := fun l q h => by
      by_cases hq : q = N.n - (j + 1)
      · subst hq
        rw [zu_same, zu_same]
      · rw [zu_ne _ _ hq, zu_ne _ _ hq]
        exact e q (by omega)
    unfold enu
    refine enr_cg (fun l => ?_) _ _
    rw [okv_cg G (by omega) (fun q q0 q1 => e1 l q (by omega)), enu_cg G j (by omega) (e1 l)]
theorem enu_len {N : NR} (G : GN N) {W : Int → Int} {k : Int} : ∀ (j : Nat) (L : Int → Int), (enu N W k j L).length ≤ 20 ^ j
  | 0, L => by
    unfold enu
    by_cases h : els N L k (isTr N) = true
    · rw [if_pos h]
      exact Nat.le_refl _
    · rw [if_neg h]
      exact Nat.zero_le _
  | j + 1, L => by
    have m10 := G.w.m10
    have hT : (mst N k + 1).toNat ≤ 20 := by
      unfold mst
      split <;> (try split) <;> (try split) <;> omega
    unfold enu
    refine Nat.le_trans (enr_len (b := 20 ^ j) (fun l => ?_) _ _) ?_
    · by_cases h : okv N W k (N.n - (j + 1)) (zu L (N.n - (j + 1)) l) = true
      · rw [if_pos h]
        exact enu_len G j _
      · rw [if_neg h]
        exact Nat.zero_le _
    · rw [Nat.pow_succ, Nat.mul_comm (20 ^ j) 20]
      exact Nat.mul_le_mul_right _ hT
/-- one labeling is counted -/
def gone (N : NR) (k : Int) (s : Sk) (L : Int → Int) : Sk := (Sk.mk s.want (fun p => if 0 ≤ p ∧ p < N.n then s.hav p ||| sb (L p) else s.hav p) (s.found + 1) s.ends (s.unl + (if fol N L s.want k = true then 1 else 0)))
def gfo (N : NR) (k : Int) : Sk → List (Int → Int) → Sk × Option (Int → Int)
  | s, [] => (s, none)
  | s, L :: K => if s.found + 1 = s.ends then (gone N k s L, some L) else gfo N k (gone N k s L) K
theorem gfo_c (N : NR) (k : Int) (s : Sk) (L : Int → Int) (K : List (Int → Int)) : gfo N k s (L :: K) = if s.found + 1 = s.ends then (gone N k s L, some L) else gfo N k (gone N k s L) K := rfl
theorem gfo_app (N : NR) (k : Int) (B : List (Int → Int)) : ∀ (A : List (Int → Int)) (s : Sk), gfo N k s (A ++ B) = match (gfo N k s A).2 with
    | some L => ((gfo N k s A).1, some L)
    | none => gfo N k (gfo N k s A).1 B
  | [], s => rfl
  | L :: A, s => by
    rw [List.cons_append, gfo_c, gfo_c]
    by_cases h : s.found + 1 = s.ends
    · rw [if_pos h, if_pos h]
    · rw [if_neg h, if_neg h]
      exact gfo_app N k B A _
theorem gfo_keep (N : NR) (k : Int) : ∀ (A : List (Int → Int)) (s : Sk), (gfo N k s A).1.want = s.want ∧ (gfo N k s A).1.ends = s.ends ∧ s.found ≤ (gfo N k s A).1.found ∧ (gfo N k s A).1.found ≤ s.found + A.length ∧ s.unl ≤ (gfo N k s A).1.unl ∧ (gfo N k s A).1.unl ≤ s.unl + A.length
  | [], s => ⟨rfl, rfl, Int.le_refl _, by show s.found ≤ s.found + 0; omega, Int.le_refl _, by show s.unl ≤ s.unl + 0; omega⟩
  | L :: A, s => by
    have e1 : (gone N k s L).found = s.found + 1 := rfl
    have e2 : (gone N k s L).unl = s.unl + (if fol N L s.want k = true then 1 else 0) := rfl
    have e3 : 0 ≤ (if fol N L s.want k = true then 1 else 0 : Int) ∧ (if fol N L s.want k = true then 1 else 0 : Int) ≤ 1 := by split <;> omega
    rw [List.length_cons]
    unfold gfo
    by_cases h : s.found + 1 = s.ends
    · rw [if_pos h]
      refine ⟨rfl, rfl, ?_, ?_, ?_, ?_⟩
      · show s.found ≤ (gone N k s L).found
        omega
      · show (gone N k s L).found ≤ _
        omega
      · show s.unl ≤ (gone N k s L).unl
        omega
      · show (gone N k s L).unl ≤ _
        omega
    · rw [if_neg h]
      obtain ⟨h1, h2, h3, h4, h5, h6⟩ := gfo_keep N k A (gone N k s L)
      exact ⟨h1, h2, by omega, by omega, by omega, by omega⟩
