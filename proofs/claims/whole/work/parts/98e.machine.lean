/-! COMPLETIONS: the machine puts and takes back -/
theorem sh_tab : ∀ x, x < 128 → ∀ q, q < 7 → (nI x >>> (nI q &&& nI 31)) >>> (nI 1 &&& nI 31) = nI x >>> (nI (q + 1) &&& nI 31) := by decide +kernel
theorem sh_0 : ∀ x, x < 128 → nI x >>> (nI 0 &&& nI 31) = nI x := by decide +kernel
theorem sh_z : ∀ x, x < 128 → ∀ q, q < 8 → (nI x >>> (nI q &&& nI 31) = nI 0 ↔ ∀ i, i < 7 → (i < q ∨ bt (nI x) i = false)) := by decide +kernel
theorem and_sb {u : Int32} {v : Int} (v0 : 0 ≤ v) (v1 : v < 32) : (u &&& sb v = qI 0) = (bi u v = false) := by
  apply propext
  rw [and_0]
  constructor
  · intro h
    apply Bool.eq_false_iff.mpr
    intro q
    have := h v v0 v1 q
    rw [bi_sb v0 v1 v0 v1, decide_eq_true rfl] at this
    cases this
  · intro h y y0 y1 hy
    rw [bi_sb v0 v1 y0 y1]
    apply decide_eq_false
    intro e
    subst e
    rw [h] at hy
    cases hy
theorem wwF_stop {N : NR} {k : Int} {lab : Int → Int} {p l : Int} {wor : Int32} {q n : Int} (q0 : 0 ≤ q) (qn : q ≤ n) (h : ∀ i, q ≤ i → i < n → bi (N.bes p) i = false) : wwF N k lab p l wor n = wwF N k lab p l wor q := by
  refine (z_run (fun i => wwF N k lab p l wor i) qn (fun i hi0 hin => ?_)).symm
  rw [wwF_s _ _ _ _ _ _ (by omega)]
  unfold wwS
  cases wwF N k lab p l wor i with
  | none => rfl
  | some w =>
    have : nbL N lab p i = false := by
      unfold nbL
      rw [h i hi0 hin, Bool.false_and]
    simp [this]
theorem wwF_none {N : NR} {k : Int} {lab : Int → Int} {p l : Int} {wor : Int32} {q n : Int} (q0 : 0 ≤ q) (qn : q ≤ n) (h : wwF N k lab p l wor q = none) : wwF N k lab p l wor n = none := by
  have := z_run (fun i => (wwF N k lab p l wor i).isNone || decide (i < q)) (a := 0) (n := q) q0 (fun i hi0 hin => by
    simp [hin]
    sorry)
  sorry
section
variable {rom : List (List Int32)} {c : Cl} {r : Rf} {g : ab_H} {d : Nat} {N : NR} {bs : Int → Bool} {p l : Int}
def oI (o : Option Int32) : Int32 := match o with
  | none => qI (-1)
  | some w => w
end
