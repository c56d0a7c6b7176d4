/-! ROW, TAKES: the order, ranks -/
/-! Integer.numberOfTrailingZeros -/
def tz1 (u : Int32) : Int32 := (u ^^^ -1) &&& (u - 1)
def tzs (t h : Int32) (s : Int32 × Int32) : Int32 × Int32 := if t < s.1 then (us s.1 h, s.2 + h) else s
def tz4 (s : Int32 × Int32) : Int32 × Int32 := tzs 4 2 (tzs 16 4 (tzs 256 8 (tzs 65536 16 s)))
def ntz (u : Int32) : Int32 := if 0 < tz1 u then (tz4 (tz1 u, 1)).2 + us (tz4 (tz1 u, 1)).1 1 else tz1 u &&& 32
theorem ntz_tab : ∀ v, v < 20 → ntz (sb ((v : Nat) : Int)) = qI ((v : Nat) : Int) := by decide +kernel
section
variable {rom : List (List Int32)} {hp : ab_H} {d : Nat}
theorem j_ntz (u : Int32) : ab_M rom (d + 1) 265 [.int u] hp = some (some (.int (ntz u)), hp) := by
  have g1 : ∀ s : Int32 × Int32, ab_X rom (ab_M rom d) cJ6_numberOfTrailingZeros_0f7a4 10 1 19 [.int s.1, .int s.2] [] hp = ab_X rom (ab_M rom d) cJ6_numberOfTrailingZeros_0f7a4 10 1 34 [.int (tzs 65536 16 s).1, .int (tzs 65536 16 s).2] [] hp := fun s => by
    unfold tzs
    by_cases h : (65536 : Int32) < s.1
    · rw [if_pos h]
      simp only [sJ6_numberOfTrailingZeros_0f7a4_19, sJ6_numberOfTrailingZeros_0f7a4_20, sJ6_numberOfTrailingZeros_0f7a4_23, sJ6_numberOfTrailingZeros_0f7a4_26i, sJ6_numberOfTrailingZeros_0f7a4_26r, sJ6_numberOfTrailingZeros_0f7a4_26n, sJ6_numberOfTrailingZeros_0f7a4_29, sJ6_numberOfTrailingZeros_0f7a4_30, sJ6_numberOfTrailingZeros_0f7a4_32, sJ6_numberOfTrailingZeros_0f7a4_33, if_pos h]
      rfl
    · rw [if_neg h]
      simp only [sJ6_numberOfTrailingZeros_0f7a4_19, sJ6_numberOfTrailingZeros_0f7a4_20, sJ6_numberOfTrailingZeros_0f7a4_23, if_neg h]
  have g2 : ∀ s : Int32 × Int32, ab_X rom (ab_M rom d) cJ6_numberOfTrailingZeros_0f7a4 10 1 34 [.int s.1, .int s.2] [] hp = ab_X rom (ab_M rom d) cJ6_numberOfTrailingZeros_0f7a4 10 1 49 [.int (tzs 256 8 s).1, .int (tzs 256 8 s).2] [] hp := fun s => by
    unfold tzs
    by_cases h : (256 : Int32) < s.1
    · rw [if_pos h]
      simp only [sJ6_numberOfTrailingZeros_0f7a4_34, sJ6_numberOfTrailingZeros_0f7a4_35, sJ6_numberOfTrailingZeros_0f7a4_38, sJ6_numberOfTrailingZeros_0f7a4_41i, sJ6_numberOfTrailingZeros_0f7a4_41r, sJ6_numberOfTrailingZeros_0f7a4_41n, sJ6_numberOfTrailingZeros_0f7a4_44, sJ6_numberOfTrailingZeros_0f7a4_45, sJ6_numberOfTrailingZeros_0f7a4_47, sJ6_numberOfTrailingZeros_0f7a4_48, if_pos h]
      rfl
    · rw [if_neg h]
      simp only [sJ6_numberOfTrailingZeros_0f7a4_34, sJ6_numberOfTrailingZeros_0f7a4_35, sJ6_numberOfTrailingZeros_0f7a4_38, if_neg h]
  have g3 : ∀ s : Int32 × Int32, ab_X rom (ab_M rom d) cJ6_numberOfTrailingZeros_0f7a4 10 1 49 [.int s.1, .int s.2] [] hp = ab_X rom (ab_M rom d) cJ6_numberOfTrailingZeros_0f7a4 10 1 62 [.int (tzs 16 4 s).1, .int (tzs 16 4 s).2] [] hp := fun s => by
    unfold tzs
    by_cases h : (16 : Int32) < s.1
    · rw [if_pos h]
      simp only [sJ6_numberOfTrailingZeros_0f7a4_49, sJ6_numberOfTrailingZeros_0f7a4_50, sJ6_numberOfTrailingZeros_0f7a4_52, sJ6_numberOfTrailingZeros_0f7a4_55i, sJ6_numberOfTrailingZeros_0f7a4_55r, sJ6_numberOfTrailingZeros_0f7a4_55n, sJ6_numberOfTrailingZeros_0f7a4_58, sJ6_numberOfTrailingZeros_0f7a4_59, sJ6_numberOfTrailingZeros_0f7a4_60, sJ6_numberOfTrailingZeros_0f7a4_61, if_pos h]
      rfl
    · rw [if_neg h]
      simp only [sJ6_numberOfTrailingZeros_0f7a4_49, sJ6_numberOfTrailingZeros_0f7a4_50, sJ6_numberOfTrailingZeros_0f7a4_52, if_neg h]
  have g4 : ∀ s : Int32 × Int32, ab_X rom (ab_M rom d) cJ6_numberOfTrailingZeros_0f7a4 10 1 62 [.int s.1, .int s.2] [] hp = ab_X rom (ab_M rom d) cJ6_numberOfTrailingZeros_0f7a4 10 1 74 [.int (tzs 4 2 s).1, .int (tzs 4 2 s).2] [] hp := fun s => by
    unfold tzs
    by_cases h : (4 : Int32) < s.1
    · rw [if_pos h]
      simp only [sJ6_numberOfTrailingZeros_0f7a4_62, sJ6_numberOfTrailingZeros_0f7a4_63, sJ6_numberOfTrailingZeros_0f7a4_64, sJ6_numberOfTrailingZeros_0f7a4_67i, sJ6_numberOfTrailingZeros_0f7a4_67r, sJ6_numberOfTrailingZeros_0f7a4_67n, sJ6_numberOfTrailingZeros_0f7a4_70, sJ6_numberOfTrailingZeros_0f7a4_71, sJ6_numberOfTrailingZeros_0f7a4_72, sJ6_numberOfTrailingZeros_0f7a4_73, if_pos h]
      rfl
    · rw [if_neg h]
      simp only [sJ6_numberOfTrailingZeros_0f7a4_62, sJ6_numberOfTrailingZeros_0f7a4_63, sJ6_numberOfTrailingZeros_0f7a4_64, if_neg h]
  have b0 : ab_X rom (ab_M rom d) cJ6_numberOfTrailingZeros_0f7a4 10 1 0 [.int u, .null] [] hp = ab_X rom (ab_M rom d) cJ6_numberOfTrailingZeros_0f7a4 10 1 8 [.int (tz1 u), .null] [] hp := by
    simp only [sJ6_numberOfTrailingZeros_0f7a4_0, sJ6_numberOfTrailingZeros_0f7a4_1, sJ6_numberOfTrailingZeros_0f7a4_2, sJ6_numberOfTrailingZeros_0f7a4_3, sJ6_numberOfTrailingZeros_0f7a4_4, sJ6_numberOfTrailingZeros_0f7a4_5, sJ6_numberOfTrailingZeros_0f7a4_6, sJ6_numberOfTrailingZeros_0f7a4_7]
    rfl
  rw [mJ6_numberOfTrailingZeros_0f7a4, b0]
  unfold ntz
  by_cases h : (0 : Int32) < tz1 u
  · rw [if_pos h]
    have e1 := ((g1 (tz1 u, 1)).trans (g2 _)).trans ((g3 _).trans (g4 _))
    simp only [sJ6_numberOfTrailingZeros_0f7a4_8, sJ6_numberOfTrailingZeros_0f7a4_9, sJ6_numberOfTrailingZeros_0f7a4_17, sJ6_numberOfTrailingZeros_0f7a4_18i, sJ6_numberOfTrailingZeros_0f7a4_18r, sJ6_numberOfTrailingZeros_0f7a4_18n, if_pos h]
    refine Eq.trans e1 ?_
    simp only [sJ6_numberOfTrailingZeros_0f7a4_74, sJ6_numberOfTrailingZeros_0f7a4_75, sJ6_numberOfTrailingZeros_0f7a4_76, sJ6_numberOfTrailingZeros_0f7a4_77, sJ6_numberOfTrailingZeros_0f7a4_78, sJ6_numberOfTrailingZeros_0f7a4_79]
    rfl
  · rw [if_neg h]
    simp only [sJ6_numberOfTrailingZeros_0f7a4_8, sJ6_numberOfTrailingZeros_0f7a4_9, sJ6_numberOfTrailingZeros_0f7a4_12, sJ6_numberOfTrailingZeros_0f7a4_13, sJ6_numberOfTrailingZeros_0f7a4_15, sJ6_numberOfTrailingZeros_0f7a4_16, if_neg h]
theorem j_ntzs {v : Int} (v0 : 0 ≤ v) (v1 : v ≤ 19) : ab_M rom (d + 1) 265 [.int (sb v)] hp = some (some (.int (qI v)), hp) := by
  have e := ntz_tab v.toNat (by omega)
  rw [Int.toNat_of_nonneg v0] at e
  rw [j_ntz, e]
end
/-! blocks -/
theorem zsum_up {f : Int → Int} (h : ∀ u, 0 ≤ f u) {a : Int} (a0 : 0 ≤ a) (t : Nat) : zsum f a ≤ zsum f (a + t) := by
  induction t with
  | zero => exact Int.le_of_eq (by rw [show a + ((0 : Nat) : Int) = a by omega])
  | succ t ih =>
    have := h (a + t)
    rw [show a + ((t + 1 : Nat) : Int) = a + t + 1 by omega, zsum_s _ (by omega)]
    omega
theorem zsum_up2 {f : Int → Int} (h : ∀ u, 0 ≤ f u) {a b : Int} (a0 : 0 ≤ a) (ab : a ≤ b) : zsum f a ≤ zsum f b := by
  have := zsum_up h a0 (b - a).toNat
  rw [show a + (((b - a).toNat : Nat) : Int) = b by omega] at this
  exact this
section
variable {X : Type} {f : Int → List X}
def lnF (f : Int → List X) (u : Int) : Int := ((f u).length : Int)
theorem enr_sum : ∀ (t : Nat) (l : Int), 0 ≤ l → ((enr f t l).length : Int) = zsum (lnF f) (l + t) - zsum (lnF f) l
  | 0, l, _ => by
    show (0 : Int) = _
    rw [show l + ((0 : Nat) : Int) = l by omega]
    omega
  | t + 1, l, l0 => by
    have ih := enr_sum t (l + 1) (by omega)
    have e := zsum_s (lnF f) l0
    have e2 : lnF f l = ((f l).length : Int) := rfl
    rw [enr, List.length_append, show l + ((t + 1 : Nat) : Int) = l + 1 + t by omega]
    omega
theorem enr_get : ∀ (t : Nat) (l v rest : Int), 0 ≤ l → l ≤ v → v < l + t → zsum (lnF f) v - zsum (lnF f) l ≤ rest → rest < zsum (lnF f) v - zsum (lnF f) l + lnF f v → (enr f t l)[rest.toNat]? = (f v)[(rest - (zsum (lnF f) v - zsum (lnF f) l)).toNat]?
  | 0, l, v, rest, l0, h1, h2, _, _ => absurd h2 (by omega)
  | t + 1, l, v, rest, l0, h1, h2, h3, h4 => by
    have e := zsum_s (lnF f) l0
    have e2 : lnF f l = ((f l).length : Int) := rfl
    rw [enr]
    by_cases hv : v = l
    · subst hv
      rw [List.getElem?_append_left (by omega)]
      congr 2
      omega
    · have hm := zsum_up2 (f := lnF f) (fun u => by show (0 : Int) ≤ ((f u).length : Int); omega) (show 0 ≤ l + 1 by omega) (show l + 1 ≤ v by omega)
      rw [List.getElem?_append_right (by omega), show rest.toNat - (f l).length = (rest - lnF f l).toNat by omega, enr_get t (l + 1) v (rest - lnF f l) (by omega) (by omega) (by omega) (by omega) (by omega)]
      congr 2
      omega
theorem enr_cnt {h : X → Int} (hf : ∀ u x, x ∈ f u → h x = u) (v : Int) : ∀ (t : Nat) (l : Int), (((enr f t l).countP (fun x => decide (h x = v)) : Nat) : Int) = if l ≤ v ∧ v < l + t then lnF f v else 0
  | 0, l => by
    rw [if_neg (by omega)]
    rfl
  | t + 1, l => by
    have ih := enr_cnt hf v t (l + 1)
    rw [enr, List.countP_append]
    by_cases e : l = v
    · have a1 : (f l).countP (fun x => decide (h x = v)) = (f l).length := List.countP_eq_length.mpr (fun x hx => decide_eq_true ((hf l x hx).trans e))
      rw [if_neg (by omega)] at ih
      rw [if_pos (by omega), a1, ← e]
      show (((f l).length + _ : Nat) : Int) = ((f l).length : Int)
      rw [← e] at ih
      omega
    · have a1 : (f l).countP (fun x => decide (h x = v)) = 0 := List.countP_eq_zero.mpr (fun x hx q => e ((hf l x hx).symm.trans (of_decide_eq_true q)))
      rw [a1]
      by_cases c : l ≤ v ∧ v < l + ((t + 1 : Nat) : Int)
      · rw [if_pos (by omega)] at ih
        rw [if_pos c]
        omega
      · rw [if_neg (by omega)] at ih
        rw [if_neg c]
        omega
end
section
variable {N : NR} {W : Int → Int} {k : Int}
def blk (N : NR) (W : Int → Int) (k : Int) (j : Nat) (L : Int → Int) (l : Int) : List (Int → Int) := if okv N W k (N.n - ((j : Int) + 1)) (zu L (N.n - ((j : Int) + 1)) l) = true then enu N W k j (zu L (N.n - ((j : Int) + 1)) l) else []
theorem enu_b (N : NR) (W : Int → Int) (k : Int) (j : Nat) (L : Int → Int) : enu N W k (j + 1) L = enr (blk N W k j L) (mst N k + 1).toNat 0 := rfl
/-- a start whose labels can stand -/
def okP (N : NR) (W : Int → Int) (k p : Int) (L : Int → Int) : Prop := ∀ q, 0 ≤ q → q < p → 0 ≤ L q ∧ L q ≤ mst N k ∧ okv N W k q L = true
theorem okP_s (G : GN N) {p l : Int} {L : Int → Int} (h : okP N W k p L) (p0 : 0 ≤ p) (l0 : 0 ≤ l) (l1 : l ≤ mst N k) (ho : okv N W k p (zu L p l) = true) : okP N W k (p + 1) (zu L p l) := fun q q0 q1 => by
  by_cases e : q = p
  · subst e
    rw [zu_same]
    exact ⟨l0, l1, ho⟩
  · have h1 := h q q0 (by omega)
    rw [zu_ne _ _ e]
    refine ⟨h1.1, h1.2.1, ?_⟩
    rw [okv_cg G q0 (M := L) (fun t t0 t1 => zu_ne _ _ (by omega))]
    exact h1.2.2
theorem enu_lvl (G : GN N) {j : Nat} (hj : (j : Int) ≤ N.n) {L : Int → Int} (h : okP N W k (N.n - j) L) (M : Int → Int) : M ∈ enu N W k j L ↔ M ∈ enu N W k N.n.toNat L ∧ ∀ q, 0 ≤ q → q < N.n - j → M q = L q := by
  have n0 := G.w.n0
  have cast : N.n - ((N.n.toNat : Nat) : Int) = 0 := by omega
  rw [enu_mem G j L M hj, enu_mem G N.n.toNat L M (by omega), cast]
  constructor
  · intro ⟨h1, h2, h3⟩
    refine ⟨⟨fun q hq => h1 q (by omega), fun q q0 q1 => ?_, h3⟩, fun q q0 q1 => h1 q (by omega)⟩
    by_cases c : N.n - j ≤ q
    · exact h2 q c q1
    · have h4 := h q q0 (by omega)
      rw [h1 q (by omega)]
      refine ⟨h4.1, h4.2.1, ?_⟩
      rw [okv_cg G q0 (M := L) (fun t t0 t1 => h1 t (by omega))]
      exact h4.2.2
  · intro ⟨⟨h1, h2, h3⟩, h4⟩
    refine ⟨fun q hq => ?_, fun q q0 q1 => h2 q (by omega) q1, h3⟩
    by_cases c : q < 0 ∨ N.n ≤ q
    · exact h1 q c
    · exact h4 q (by omega) (by omega)
def nrl (N : NR) (f : Int → Int) : NR := (NR.mk N.n N.m N.lo N.hi f N.bes)
theorem CX_nlab {f : Int → Int} {x : List Int} : CX (nrl N f) k x ↔ Sx N (bsK k) k (mst N k) (rpa N k) f x := Iff.rfl
/-- the completions of what has been put so far -/
theorem enu_nlab (G : GN N) (n1 : 1 ≤ N.n) (k0 : 0 ≤ k) (k4 : k ≤ 4) {j : Nat} (hj : (j : Int) ≤ N.n) {L : Int → Int} (h : okP N N.lab k (N.n - j) L) (x : List Int) : x ∈ (enu N N.lab k j L).map (lst N.n) ↔ CX (nrl N (zfi L N.lab (N.n - j))) k x := by
  have n0 := G.w.n0
  have hw : ∀ q, 0 ≤ q → q < N.n - j → N.lab q = -1 ∨ N.lab q = L q := fun q q0 q1 => by
    have := (h q q0 q1).2.2
    unfold okv at this
    have h2 := ((Bool.and_eq_true _ _).mp this).1
    rw [Bool.or_eq_true, decide_eq_true_eq, decide_eq_true_eq] at h2
    exact h2
  rw [CX_nlab, Sx_lab]
  constructor
  · intro hx
    obtain ⟨M, hM, rfl⟩ := List.mem_map.mp hx
    obtain ⟨h1, h2⟩ := (enu_lvl G hj h M).mp hM
    have h3 := (enu_Sx G n1 k0 k4 L (lst N.n M)).mp (List.mem_map.mpr ⟨M, h1, rfl⟩)
    rw [Sx_lab] at h3
    refine ⟨h3.1, fun p p0 p1 hp => ?_⟩
    by_cases c : p < N.n - j
    · rw [xf_lst M p0 p1, zfi_in p0 c]
      exact h2 p p0 c
    · have e : zfi L N.lab (N.n - j) p = N.lab p := if_neg (by omega)
      rw [e] at hp ⊢
      exact h3.2 p p0 p1 hp
  · intro ⟨h1, h2⟩
    have h3 : x ∈ (enu N N.lab k N.n.toNat L).map (lst N.n) := by
      rw [enu_Sx G n1 k0 k4 L x, Sx_lab]
      refine ⟨h1, fun p p0 p1 hp => ?_⟩
      by_cases c : p < N.n - j
      · have h4 := h p p0 c
        have h5 := h2 p p0 p1 (by rw [zfi_in p0 c]; omega)
        rw [zfi_in p0 c] at h5
        rw [h5]
        exact ((hw p p0 c).resolve_left hp).symm
      · have e : zfi L N.lab (N.n - j) p = N.lab p := if_neg (by omega)
        have h5 := h2 p p0 p1 (by rw [e]; exact hp)
        rw [e] at h5
        exact h5
    obtain ⟨M, hM, rfl⟩ := List.mem_map.mp h3
    refine List.mem_map.mpr ⟨M, (enu_lvl G hj h M).mpr ⟨hM, fun q q0 q1 => ?_⟩, rfl⟩
    have h4 := h q q0 q1
    have h5 := h2 q q0 (by omega) (by rw [zfi_in q0 q1]; omega)
    rw [zfi_in q0 q1, xf_lst M q0 (by omega)] at h5
    exact h5
theorem blk_val (G : GN N) {j : Nat} (hj : (j : Int) + 1 ≤ N.n) {L : Int → Int} (u : Int) (M : Int → Int) (h : M ∈ blk N W k j L u) : M (N.n - ((j : Int) + 1)) = u := by
  unfold blk at h
  by_cases ho : okv N W k (N.n - ((j : Int) + 1)) (zu L (N.n - ((j : Int) + 1)) u) = true
  · rw [if_pos ho] at h
    rw [((enu_mem G j _ M (by omega)).mp h).1 _ (by omega), zu_same]
  · rw [if_neg ho] at h
    cases h
end
