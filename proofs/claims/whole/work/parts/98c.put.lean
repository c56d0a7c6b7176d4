/-! COMPLETIONS: a point gets a label -/
def wt (k m u v : Int) : Int := if k = 2 then (u + v) % m else zab (u - v)
theorem wt_comm (k m u v : Int) : wt k m u v = wt k m v u := by
  unfold wt zab
  split
  · rw [Int.add_comm]
  · omega
theorem wof_wt (N : NR) (L : Int → Int) (k i : Int) : wof N L k i = wt k N.m (L (N.lo i)) (L (N.hi i)) := rfl
def nbL (N : NR) (lab : Int → Int) (p q : Int) : Bool := bi (N.bes p) q && !decide (lab q = -1)
def wwS (N : NR) (k : Int) (lab : Int → Int) (p l q : Int) (o : Option Int32) : Option Int32 := match o with
  | none => none
  | some w => if nbL N lab p q = true then (if bi w (wt k N.m l (lab q)) = true then none else some (w ||| sb (wt k N.m l (lab q)))) else some w
def wwF (N : NR) (k : Int) (lab : Int → Int) (p l : Int) (wor : Int32) (i : Int) : Option Int32 := zfold (wwS N k lab p l) (some wor) i
theorem wwF_s (N : NR) (k : Int) (lab : Int → Int) (p l : Int) (wor : Int32) {i : Int} (h : 0 ≤ i) : wwF N k lab p l wor (i + 1) = wwS N k lab p l i (wwF N k lab p l wor i) := zfold_s _ _ h
section
variable {N : NR} {k : Int} {lab : Int → Int} {p l : Int} {wor : Int32}
theorem wwF_sp {n : Int} (hv : ∀ q, 0 ≤ q → q < n → nbL N lab p q = true → 0 ≤ wt k N.m l (lab q) ∧ wt k N.m l (lab q) < 32) {i : Int} (i0 : 0 ≤ i) (i1 : i ≤ n) : (∃ w, wwF N k lab p l wor i = some w ∧ (∀ q, 0 ≤ q → q < i → nbL N lab p q = true → bi wor (wt k N.m l (lab q)) = false) ∧ (∀ q q', 0 ≤ q' → q' < q → q < i → nbL N lab p q = true → nbL N lab p q' = true → wt k N.m l (lab q') ≠ wt k N.m l (lab q)) ∧ ∀ v, 0 ≤ v → v < 32 → (bi w v = true ↔ bi wor v = true ∨ ∃ q, 0 ≤ q ∧ q < i ∧ nbL N lab p q = true ∧ wt k N.m l (lab q) = v)) ∨ (wwF N k lab p l wor i = none ∧ ∃ q, 0 ≤ q ∧ q < i ∧ nbL N lab p q = true ∧ (bi wor (wt k N.m l (lab q)) = true ∨ ∃ q', 0 ≤ q' ∧ q' < q ∧ nbL N lab p q' = true ∧ wt k N.m l (lab q') = wt k N.m l (lab q))) := by
  revert i1
  refine z_ind (P := fun i => i ≤ n → ((∃ w, wwF N k lab p l wor i = some w ∧ (∀ q, 0 ≤ q → q < i → nbL N lab p q = true → bi wor (wt k N.m l (lab q)) = false) ∧ (∀ q q', 0 ≤ q' → q' < q → q < i → nbL N lab p q = true → nbL N lab p q' = true → wt k N.m l (lab q') ≠ wt k N.m l (lab q)) ∧ ∀ v, 0 ≤ v → v < 32 → (bi w v = true ↔ bi wor v = true ∨ ∃ q, 0 ≤ q ∧ q < i ∧ nbL N lab p q = true ∧ wt k N.m l (lab q) = v)) ∨ (wwF N k lab p l wor i = none ∧ ∃ q, 0 ≤ q ∧ q < i ∧ nbL N lab p q = true ∧ (bi wor (wt k N.m l (lab q)) = true ∨ ∃ q', 0 ≤ q' ∧ q' < q ∧ nbL N lab p q' = true ∧ wt k N.m l (lab q') = wt k N.m l (lab q))))) (fun _ => Or.inl ⟨wor, rfl, fun q a b => by omega, fun q q' a b c => by omega, fun v _ _ => ⟨Or.inl, fun h => h.elim id (fun ⟨q, a, b, _⟩ => by omega)⟩⟩) (fun i hi ih hin => ?_) i0
  rcases ih (by omega) with ⟨w, e, h1, h2, h3⟩ | ⟨e, q, q0, q1, q2, q3⟩
  · rw [wwF_s _ _ _ _ _ _ hi, e]
    unfold wwS
    by_cases hb : nbL N lab p i = true
    · have hvi := hv i hi (by omega) hb
      have h3i := h3 _ hvi.1 hvi.2
      by_cases hc : bi w (wt k N.m l (lab i)) = true
      · refine Or.inr ⟨by simp only [hb, hc, if_true], i, hi, by omega, hb, ?_⟩
        rcases h3i.mp hc with h | ⟨q, a, b, c, d⟩
        · exact Or.inl h
        · exact Or.inr ⟨q, a, b, c, d⟩
      · refine Or.inl ⟨w ||| sb (wt k N.m l (lab i)), by simp only [hb, if_true]; rw [if_neg hc], fun q a b c => ?_, fun q q' a b c d f => ?_, fun v v0 v1 => ?_⟩
        · by_cases e2 : q = i
          · subst e2
            apply Bool.eq_false_iff.mpr
            intro hh
            exact hc (h3i.mpr (Or.inl hh))
          · exact h1 q a (by omega) c
        · by_cases e2 : q = i
          · subst e2
            intro hh
            exact hc (h3i.mpr (Or.inr ⟨q', a, b, f, hh⟩))
          · exact h2 q q' a b (by omega) d f
        · rw [bi_or, Bool.or_eq_true, h3 v v0 v1, bi_sb hvi.1 hvi.2 v0 v1, decide_eq_true_eq]
          constructor
          · rintro ((h | ⟨q, a, b, c, d⟩) | h)
            · exact Or.inl h
            · exact Or.inr ⟨q, a, by omega, c, d⟩
            · exact Or.inr ⟨i, hi, by omega, hb, h.symm⟩
          · rintro (h | ⟨q, a, b, c, d⟩)
            · exact Or.inl (Or.inl h)
            · by_cases e2 : q = i
              · subst e2
                exact Or.inr d.symm
              · exact Or.inl (Or.inr ⟨q, a, by omega, c, d⟩)
    · refine Or.inl ⟨w, by simp only []; rw [if_neg hb], fun q a b c => ?_, fun q q' a b c d f => ?_, fun v v0 v1 => ?_⟩
      · by_cases e2 : q = i
        · subst e2
          exact absurd c hb
        · exact h1 q a (by omega) c
      · by_cases e2 : q = i
        · subst e2
          exact absurd d hb
        · exact h2 q q' a b (by omega) d f
      · rw [h3 v v0 v1]
        constructor
        · rintro (h | ⟨q, a, b, c, d⟩)
          · exact Or.inl h
          · exact Or.inr ⟨q, a, by omega, c, d⟩
        · rintro (h | ⟨q, a, b, c, d⟩)
          · exact Or.inl h
          · by_cases e2 : q = i
            · subst e2
              exact absurd c hb
            · exact Or.inr ⟨q, a, by omega, c, d⟩
  · refine Or.inr ⟨by rw [wwF_s _ _ _ _ _ _ hi, e]; rfl, q, q0, by omega, q2, q3⟩
end
/-- how often a label is there; how many too often -/
def cnL (n : Int) (L : Int → Int) (v : Int) : Int := zcnt (fun p => decide (L p = v)) n
def rpt (n : Int) (L : Int → Int) : Int := zsum (fun v => max (cnL n L v - 1) 0) 21
theorem cnL_bd {n : Int} (n0 : 0 ≤ n) (L : Int → Int) (v : Int) : 0 ≤ cnL n L v ∧ cnL n L v ≤ n := zcnt_bd _ n0
theorem cnL_put {n : Int} {L : Int → Int} {p l : Int} (p0 : 0 ≤ p) (p1 : p < n) (hp : L p = -1) (l0 : 0 ≤ l) (v : Int) (v0 : 0 ≤ v) : cnL n (zu L p l) v = if v = l then cnL n L v + 1 else cnL n L v := by
  have n0 : 0 ≤ n := by omega
  unfold cnL
  rw [zcnt_sum _ n0, zcnt_sum _ n0]
  have e : ∀ q, 0 ≤ q → q < n → (if decide (zu L p l q = v) = true then (1 : Int) else 0) = (if decide (L q = v) = true then (1 : Int) else 0) + (if decide (q = p ∧ v = l) = true then (1 : Int) else 0) := fun q q0 q1 => by
    unfold zu
    by_cases a : q = p
    · subst a
      rw [if_pos rfl, hp]
      by_cases b : v = l
      · subst b
        simp
        omega
      · have b' : ¬ l = v := fun q => b q.symm
        simp [b, b']
        omega
    · simp [a]
  rw [zsum_congr e n0, zsum_add _ _ n0]
  by_cases b : v = l
  · have z1 : zsum (fun q => if decide (q = p ∧ v = l) = true then (1 : Int) else 0) n = 1 := by
      rw [zsum_one (a := p) p0 p1 (fun q _ _ hq => if_neg (by simp [hq])), if_pos (by simp [b])]
    rw [if_pos b, z1]
  · have z1 : zsum (fun q => if decide (q = p ∧ v = l) = true then (1 : Int) else 0) n = 0 := zsum_zero n0 (fun q _ _ => if_neg (by simp [b]))
    rw [if_neg b, z1]
    omega
theorem rpt_put {n : Int} {L : Int → Int} {p l : Int} (p0 : 0 ≤ p) (p1 : p < n) (hp : L p = -1) (l0 : 0 ≤ l) (l1 : l ≤ 20) : rpt n (zu L p l) = if 0 < cnL n L l then rpt n L + 1 else rpt n L := by
  have n0 : 0 ≤ n := by omega
  unfold rpt
  have e : ∀ v, 0 ≤ v → v < 21 → max (cnL n (zu L p l) v - 1) 0 = max (cnL n L v - 1) 0 + (if v = l ∧ 0 < cnL n L l then 1 else 0) := fun v v0 v1 => by
    have hb := cnL_bd n0 L v
    rw [cnL_put p0 p1 hp l0 v v0]
    by_cases a : v = l
    · subst a
      rw [if_pos rfl]
      by_cases b : 0 < cnL n L v
      · rw [if_pos ⟨rfl, b⟩]
        omega
      · rw [if_neg (fun q => b q.2)]
        omega
    · rw [if_neg a, if_neg (fun q => a q.1)]
      omega
  rw [zsum_congr e (by omega), zsum_add _ _ (by omega)]
  by_cases b : 0 < cnL n L l
  · have z1 : zsum (fun v => if v = l ∧ 0 < cnL n L l then (1 : Int) else 0) 21 = 1 := by
      rw [zsum_one (a := l) l0 (by omega) (fun v _ _ hv => if_neg (fun q => hv q.1)), if_pos ⟨rfl, b⟩]
    rw [if_pos b, z1]
  · have z1 : zsum (fun v => if v = l ∧ 0 < cnL n L l then (1 : Int) else 0) 21 = 0 := zsum_zero (by omega) (fun v _ _ => if_neg (fun q => b q.2))
    rw [if_neg b, z1]
    omega
theorem rpt_mono {n : Int} (n0 : 0 ≤ n) {L X : Int → Int} (h : ∀ p, 0 ≤ p → p < n → L p ≠ -1 → X p = L p) : rpt n L ≤ rpt n X := by
  unfold rpt
  refine zsum_le (by omega) (fun v v0 v1 => ?_)
  have : cnL n L v ≤ cnL n X v := by
    unfold cnL
    refine zcnt_le n0 (fun p p0 p1 hp => ?_)
    have hp := of_decide_eq_true hp
    exact decide_eq_true (by rw [h p p0 p1 (by omega)]; exact hp)
  omega
theorem rpt_bd {n : Int} (n0 : 0 ≤ n) {L : Int → Int} : 0 ≤ rpt n L := by
  have h := zsum_le (A := fun _ => 0) (B := fun v => max (cnL n L v - 1) 0) (T := 21) (by omega) (fun v _ _ => by show (0 : Int) ≤ max (cnL n L v - 1) 0; omega)
  rw [zsum_zero (by omega) (fun _ _ _ => rfl)] at h
  exact h
theorem rpt_le {n : Int} (n0 : 0 ≤ n) {L : Int → Int} (hL : ∀ p, 0 ≤ p → p < n → -1 ≤ L p ∧ L p ≤ 20) : rpt n L ≤ n := by
  have h1 := zhit (f := fun p => L p + 1) (m := n) (T := 22) n0 (by omega) (fun p p0 p1 => by have := hL p p0 p1; show 0 ≤ L p + 1 ∧ L p + 1 < 22; omega)
  have h2 : rpt n L ≤ zsum (fun v => zcnt (fun p => decide (L p + 1 = v)) n) 22 := by
    have e : zsum (fun v => zcnt (fun p => decide (L p + 1 = v)) n) 22 = zcnt (fun p => decide (L p + 1 = 0)) n + zsum (fun v => cnL n L v) 21 := by
      have key : ∀ t : Int, 0 ≤ t → zsum (fun v => zcnt (fun p => decide (L p + 1 = v)) n) (t + 1) = zcnt (fun p => decide (L p + 1 = 0)) n + zsum (fun v => cnL n L v) t := fun t ht => by
        refine z_ind (P := fun t => zsum (fun v => zcnt (fun p => decide (L p + 1 = v)) n) (t + 1) = zcnt (fun p => decide (L p + 1 = 0)) n + zsum (fun v => cnL n L v) t) ?_ (fun i hi ih => ?_) ht
        · rw [zsum_s _ (by omega), zsum_0, zsum_0]
          omega
        · have e3 : zcnt (fun p => decide (L p + 1 = i + 1)) n = cnL n L i := zcnt_congr (fun p _ _ => by
            by_cases a : L p = i
            · rw [decide_eq_true a, decide_eq_true (by omega)]
            · rw [decide_eq_false a, decide_eq_false (by omega)]) n0
          rw [zsum_s _ (by omega), ih, zsum_s _ hi, e3]
          omega
      exact key 21 (by omega)
    rw [e]
    have h3 := zcnt_bd (fun p => decide (L p + 1 = 0)) n0
    have h4 := zsum_le (A := fun v => max (cnL n L v - 1) 0) (B := fun v => cnL n L v) (T := 21) (by omega) (fun v _ _ => by
      have := cnL_bd n0 L v
      show max (cnL n L v - 1) 0 ≤ cnL n L v
      omega)
    unfold rpt
    omega
  omega
