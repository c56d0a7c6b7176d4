/-! THE REFERENCE'S SEARCH: what it meets -/
section
variable {N : NR} {W : Int → Int} {k : Int}
theorem enu_mem (G : GN N) : ∀ (j : Nat) (L M : Int → Int), (j : Int) ≤ N.n → (M ∈ enu N W k j L ↔ (∀ q, q < N.n - j ∨ N.n ≤ q → M q = L q) ∧ (∀ q, N.n - j ≤ q → q < N.n → 0 ≤ M q ∧ M q ≤ mst N k ∧ okv N W k q M = true) ∧ els N M k (isTr N) = true)
  | 0, L, M, _ => by
    unfold enu
    constructor
    · intro h
      by_cases he : els N L k (isTr N) = true
      · rw [if_pos he] at h
        have := List.mem_singleton.mp h
        subst this
        exact ⟨fun _ _ => rfl, fun q q0 q1 => absurd q1 (by omega), he⟩
      · rw [if_neg he] at h
        cases h
    · intro ⟨h1, h2, h3⟩
      have : M = L := funext (fun q => h1 q (by omega))
      subst this
      rw [if_pos h3]
      exact List.mem_singleton.mpr rfl
  | j + 1, L, M, hj => by
    rw [enu_s, enr_mem]
    have ecast : ((j + 1 : Nat) : Int) = (j : Int) + 1 := by omega
    rw [ecast]
    constructor
    · intro ⟨v, v0, v1, h⟩
      replace h : M ∈ (if okv N W k (N.n - (j + 1)) (zu L (N.n - (j + 1)) v) = true then enu N W k j (zu L (N.n - (j + 1)) v) else []) := h
      by_cases ho : okv N W k (N.n - (j + 1)) (zu L (N.n - (j + 1)) v) = true
      · rw [if_pos ho] at h
        obtain ⟨h1, h2, h3⟩ := (enu_mem G j _ M (by omega)).mp h
        have hv : M (N.n - (j + 1)) = v := (h1 _ (by omega)).trans (zu_same _ _ _)
        have eo := okv_cg (W := W) (k := k) G (show 0 ≤ N.n - ((j : Int) + 1) by omega) (L := M) (M := zu L (N.n - (j + 1)) v) (fun q q0 q1 => h1 q (by omega))
        refine ⟨fun q hq => ?_, fun q q0 q1 => ?_, h3⟩
        · rw [h1 q (by omega), zu_ne _ _ (by omega)]
        · by_cases hq : q = N.n - (j + 1)
          · subst hq
            rw [hv, eo]
            exact ⟨v0, by omega, ho⟩
          · exact h2 q (by omega) q1
      · rw [if_neg ho] at h
        cases h
    · intro ⟨h1, h2, h3⟩
      obtain ⟨b1, b2, b3⟩ := h2 (N.n - (j + 1)) (by omega) (by omega)
      refine ⟨M (N.n - (j + 1)), b1, by omega, ?_⟩
      show M ∈ (if okv N W k (N.n - (j + 1)) (zu L (N.n - (j + 1)) (M (N.n - (j + 1)))) = true then enu N W k j (zu L (N.n - (j + 1)) (M (N.n - (j + 1)))) else [])
      have hz : ∀ q, q < N.n - j ∨ N.n ≤ q → M q = zu L (N.n - (j + 1)) (M (N.n - (j + 1))) q := fun q hq => by
        by_cases hqp : q = N.n - (j + 1)
        · subst hqp
          rw [zu_same]
        · rw [zu_ne _ _ hqp]
          exact h1 q (by omega)
      have eo := okv_cg (W := W) (k := k) G (show 0 ≤ N.n - ((j : Int) + 1) by omega) (L := M) (M := zu L (N.n - (j + 1)) (M (N.n - (j + 1)))) (fun q q0 q1 => hz q (by omega))
      rw [if_pos (eo.symm.trans b3)]
      exact (enu_mem G j _ M (by omega)).mpr ⟨hz, fun q q0 q1 => h2 q (by omega) q1, h3⟩
theorem enr_nd {X Y : Type} {f : Int → List X} (h : X → Y) (e : ∀ l, ((f l).map h).Nodup) (dj : ∀ a b x y, a ≠ b → x ∈ f a → y ∈ f b → h x ≠ h y) : ∀ (t : Nat) (l : Int), ((enr f t l).map h).Nodup
  | 0, _ => List.nodup_nil
  | t + 1, l => by
    rw [enr, List.map_append, List.nodup_append]
    refine ⟨e l, enr_nd h e dj t (l + 1), fun a ha b hb => ?_⟩
    obtain ⟨x, hx, rfl⟩ := List.mem_map.mp ha
    obtain ⟨y, hy, rfl⟩ := List.mem_map.mp hb
    obtain ⟨v, v0, v1, hv⟩ := (enr_mem t (l + 1)).mp hy
    exact dj l v x y (by omega) hx hv
theorem enu_nd (G : GN N) : ∀ (j : Nat) (L : Int → Int), (j : Int) ≤ N.n → ((enu N W k j L).map (lst N.n)).Nodup
  | 0, L, _ => by
    unfold enu
    by_cases he : els N L k (isTr N) = true
    · rw [if_pos he, List.map_cons, List.map_nil]
      exact List.nodup_cons.mpr ⟨fun h => (by cases h), List.nodup_nil⟩
    · rw [if_neg he]
      exact List.nodup_nil
  | j + 1, L, hj => by
    rw [enu_s]
    refine enr_nd (lst N.n) (fun l => ?_) (fun a b x y hab hx hy hxy => ?_) _ _
    · by_cases ho : okv N W k (N.n - (j + 1)) (zu L (N.n - (j + 1)) l) = true
      · rw [if_pos ho]
        exact enu_nd G j _ (by omega)
      · rw [if_neg ho]
        exact List.nodup_nil
    · have val : ∀ (a : Int) (x : Int → Int), (x ∈ (if okv N W k (N.n - (j + 1)) (zu L (N.n - (j + 1)) a) = true then enu N W k j (zu L (N.n - (j + 1)) a) else [])) → xf (lst N.n x) (N.n - (j + 1)) = a := fun a x hx => by
        by_cases ho : okv N W k (N.n - (j + 1)) (zu L (N.n - (j + 1)) a) = true
        · rw [if_pos ho] at hx
          have h1 := ((enu_mem G j _ x (by omega)).mp hx).1 (N.n - (j + 1)) (by omega)
          rw [xf_lst x (by omega) (by omega), h1, zu_same]
        · rw [if_neg ho] at hx
          cases hx
      exact hab ((val a x hx).symm.trans ((congrArg (fun z => xf z (N.n - (j + 1))) hxy).trans (val b y hy)))
/-- all prefixes at once -/
theorem okv_all (G : GN N) (n1 : 1 ≤ N.n) (M : Int → Int) : (∀ q, 0 ≤ q → q < N.n → okv N W k q M = true) ↔ (∀ q, 0 ≤ q → q < N.n → W q = -1 ∨ W q = M q) ∧ als M k N.n (isTr N) = false ∧ lals N M k N.n = false ∧ (k = 3 → oddq N M N.n = true) := by
  have m0 := G.w.m0
  have un : ∀ q, okv N W k q M = true ↔ (W q = -1 ∨ W q = M q) ∧ als M k (q + 1) (isTr N) = false ∧ lals N M k (q + 1) = false ∧ (k = 3 → oddq N M (q + 1) = true) := fun q => by
    unfold okv
    simp only [Bool.and_eq_true, Bool.or_eq_true, Bool.not_eq_true', decide_eq_true_eq, decide_eq_false_iff_not]
    constructor
    · intro ⟨a, b, c, d⟩
      exact ⟨a, b, c, fun h => d.resolve_left (fun z => z h)⟩
    · intro ⟨a, b, c, d⟩
      refine ⟨a, b, c, ?_⟩
      by_cases h : k = 3
      · exact Or.inr (d h)
      · exact Or.inl h
  constructor
  · intro h
    have h1 := (un (N.n - 1)).mp (h (N.n - 1) (by omega) (by omega))
    rw [show N.n - 1 + 1 = N.n by omega] at h1
    exact ⟨fun q q0 q1 => ((un q).mp (h q q0 q1)).1, h1.2⟩
  · intro ⟨h1, h2, h3, h4⟩ q q0 q1
    refine (un q).mpr ⟨h1 q q0 q1, ?_, ?_, fun hk => ?_⟩
    · unfold als at h2 ⊢
      have h2' := of_decide_eq_false h2
      refine decide_eq_false (fun ⟨a, b⟩ => h2' ⟨a, ?_⟩)
      have mono : dbl M (q + 1) ≤ dbl M N.n := by
        have : ∀ t : Nat, dbl M (q + 1) ≤ dbl M (q + 1 + t) := fun t => by
          induction t with
          | zero => exact Int.le_of_eq (by rw [show q + 1 + ((0 : Nat) : Int) = q + 1 by omega])
          | succ t ih =>
            rw [show q + 1 + ((t + 1 : Nat) : Int) = q + 1 + t + 1 by omega, dbl_s M (i := q + 1 + t) (by omega)]
            split <;> omega
        have := this (N.n - (q + 1)).toNat
        rw [show q + 1 + (((N.n - (q + 1)).toNat : Nat) : Int) = N.n by omega] at this
        exact this
      omega
    · unfold lals at h3 ⊢
      by_cases h : k = 4
      · rw [if_pos h]
      · rw [if_neg h] at h3 ⊢
        cases hl : lk N M k (q + 1) with
        | false => rfl
        | true =>
          obtain ⟨i, j, a1, a2, a3, a4, a5, a6⟩ := (lk_iff N M k (q + 1) m0).mp hl
          have := (lk_iff N M k N.n m0).mpr ⟨i, j, a1, a2, a3, by omega, by omega, a6⟩
          rw [h3] at this
          cases this
    · have h5 := h4 hk
      unfold oddq at h5 ⊢
      refine (zfind_isNone m0).mpr (fun i i0 i1 => ?_)
      have h6 := (zfind_isNone m0).mp h5 i i0 i1
      have h7 := of_decide_eq_false h6
      refine decide_eq_false (fun ⟨a, b⟩ => h7 ⟨by omega, b⟩)
end
