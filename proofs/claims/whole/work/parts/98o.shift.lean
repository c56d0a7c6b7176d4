/-! HARMONIOUS labels shifted -/
theorem rpt_dbl {n : Int} (n0 : 0 ≤ n) {X : Int → Int} (hX : ∀ p, 0 ≤ p → p < n → 0 ≤ X p ∧ X p ≤ 20) : rpt n X = dbl X n := by
  have key : ∀ i, 0 ≤ i → i ≤ n → rpt i X = dbl X i := fun i i0 => by
    refine z_ind (P := fun i => i ≤ n → rpt i X = dbl X i) (fun _ => ?_) (fun i hi ih hin => ?_) i0
    · unfold rpt
      rw [zsum_zero (by omega) (fun v _ _ => ?_)]
      · rfl
      · show max ((0 : Int) - 1) 0 = 0
        omega
    · have hx := hX i hi (by omega)
      have e1 : ∀ v, cnL (i + 1) X v = if X i = v then cnL i X v + 1 else cnL i X v := fun v => by
        unfold cnL
        rw [zcnt_s _ hi]
        by_cases a : X i = v
        · rw [if_pos a, if_pos (decide_eq_true a)]
        · rw [if_neg a, if_neg (by simp [a])]
      have e2 : rpt (i + 1) X = if 0 < cnL i X (X i) then rpt i X + 1 else rpt i X := by
        unfold rpt
        have e3 : ∀ v, 0 ≤ v → v < 21 → max (cnL (i + 1) X v - 1) 0 = max (cnL i X v - 1) 0 + (if v = X i ∧ 0 < cnL i X (X i) then 1 else 0) := fun v v0 v1 => by
          have hb := cnL_bd hi X v
          rw [e1 v]
          by_cases a : X i = v
          · rw [if_pos a, a]
            by_cases b : 0 < cnL i X v
            · rw [if_pos ⟨rfl, b⟩]
              omega
            · rw [if_neg (fun q => b q.2)]
              omega
          · rw [if_neg a, if_neg (fun q => a q.1.symm)]
            omega
        rw [zsum_congr e3 (by omega), zsum_add _ _ (by omega)]
        by_cases b : 0 < cnL i X (X i)
        · have z1 : zsum (fun v => if v = X i ∧ 0 < cnL i X (X i) then (1 : Int) else 0) 21 = 1 := by
            rw [zsum_one (a := X i) hx.1 (by omega) (fun v _ _ hv => if_neg (fun q => hv q.1)), if_pos ⟨rfl, b⟩]
          rw [if_pos b, z1]
        · have z1 : zsum (fun v => if v = X i ∧ 0 < cnL i X (X i) then (1 : Int) else 0) 21 = 0 := zsum_zero (by omega) (fun v _ _ => if_neg (fun q => b q.2))
          rw [if_neg b, z1]
          omega
      rw [e2, dbl_s _ hi, ih (by omega)]
      by_cases a : nw X i = true
      · have h0 : ¬ 0 < cnL i X (X i) := fun q => by
          obtain ⟨t, t0, t1, t2⟩ := zcnt_ex hi (show 1 ≤ zcnt (fun p => decide (X p = X i)) i from by unfold cnL at q; omega)
          exact (nw_iff X hi).mp a t t0 t1 (of_decide_eq_true t2)
        rw [if_neg h0, if_pos a]
      · have h0 : 0 < cnL i X (X i) := by
          by_cases q : 0 < cnL i X (X i)
          · exact q
          · exfalso
            apply a
            rw [nw_iff X hi]
            intro t t0 t1 e
            have := zcnt_pos (p := fun p => decide (X p = X i)) t0 t1 (decide_eq_true e)
            unfold cnL at q
            omega
        rw [if_pos h0, if_neg a]
  exact key n n0 (Int.le_refl _)
theorem dbl_same {n : Int} (n0 : 0 ≤ n) {X Y : Int → Int} (h : ∀ p q, 0 ≤ p → p < n → 0 ≤ q → q < n → (X p = X q ↔ Y p = Y q)) : dbl X n = dbl Y n := by
  unfold dbl
  refine zcnt_congr (fun p p0 p1 => ?_) n0
  congr 1
  apply zb_ext
  rw [nw_iff X p0, nw_iff Y p0]
  constructor
  · exact fun q j j0 j1 e => q j j0 j1 ((h j p j0 (by omega) p0 p1).mpr e)
  · exact fun q j j0 j1 e => q j j0 j1 ((h j p j0 (by omega) p0 p1).mp e)
theorem shF_bd {m s : Int} (m1 : 1 ≤ m) (L : Int → Int) (p : Int) : 0 ≤ shF m s L p ∧ shF m s L p ≤ m - 1 := by
  have h5 := Int.emod_nonneg (L p + s) (show m ≠ 0 by omega)
  have h6 := Int.emod_lt_of_pos (L p + s) (show 0 < m by omega)
  unfold shF
  omega
theorem sh_eq {m s a b : Int} (a0 : 0 ≤ a) (a1 : a < m) (b0 : 0 ≤ b) (b1 : b < m) : (a + s) % m = (b + s) % m ↔ a = b := by
  rw [Int.emod_add_cancel_right, Int.emod_eq_of_lt a0 a1, Int.emod_eq_of_lt b0 b1]
section
variable {N : NR}
theorem CX_sh (G : GN N) (hl : ∀ p, 0 ≤ p → p < N.n → N.lab p = -1) (m1 : 1 ≤ N.m) (s : Int) {x : List Int} (hx : CX N 2 x) : CX N 2 (lst N.n (shF N.m s (xf x))) := by
  have n0 := G.w.n0
  have m10 := G.w.m10
  have htop : mst N 2 = N.m - 1 := if_pos rfl
  obtain ⟨x1, x2, x3, x4, x5, x6⟩ := hx
  rw [htop] at x2
  obtain ⟨y1, y2⟩ := x5 (by omega)
  have he : ∀ p, 0 ≤ p → p < N.n → xf (lst N.n (shF N.m s (xf x))) p = shF N.m s (xf x) p := fun p p0 p1 => xf_lst _ p0 p1
  have hw : ∀ i, 0 ≤ i → i < N.m → wof N (shF N.m s (xf x)) 2 i = (wof N (xf x) 2 i + (s + s)) % N.m := fun i i0 i1 => by
    show ((xf x (N.lo i) + s) % N.m + (xf x (N.hi i) + s) % N.m) % N.m = ((xf x (N.lo i) + xf x (N.hi i)) % N.m + (s + s)) % N.m
    rw [← Int.add_emod, Int.emod_add_emod]
    congr 1
    omega
  have hwb : ∀ i, 0 ≤ i → i < N.m → 0 ≤ wof N (xf x) 2 i ∧ wof N (xf x) 2 i < N.m := fun i i0 i1 => ⟨Int.emod_nonneg _ (by omega), Int.emod_lt_of_pos _ (by omega)⟩
  refine ⟨lst_len _ _, fun p p0 p1 => ?_, fun p p0 p1 hp => absurd (hl p p0 p1) hp, ?_, fun _ => ⟨fun i j j0 ji im => ?_, fun i i0 i1 => decide_eq_false (fun q => by have := q.1; omega)⟩, rfl⟩
  · rw [he p p0 p1, htop]
    exact shF_bd m1 _ p
  · rw [rpt_congr n0 he, rpt_dbl n0 (fun p p0 p1 => by have := shF_bd (s := s) m1 (xf x) p; omega)]
    rw [rpt_dbl n0 (fun p p0 p1 => by have := x2 p p0 p1; omega)] at x4
    rw [← dbl_same n0 (X := xf x) (fun p q p0 p1 q0 q1 => by
      have h1 := x2 p p0 p1
      have h2 := x2 q q0 q1
      exact (sh_eq h1.1 (by omega) h2.1 (by omega)).symm)]
    exact x4
  · rw [wof_congr G he j0 (by omega), wof_congr G he (by omega) im, hw j j0 (by omega), hw i (by omega) im]
    have h1 := hwb j j0 (by omega)
    have h2 := hwb i (by omega) im
    intro e
    exact y1 i j j0 ji im ((sh_eq h1.1 h1.2 h2.1 h2.2).mp e)
/-- every one comes from one that has 0 at a point -/
theorem CX_base (G : GN N) (hl : ∀ p, 0 ≤ p → p < N.n → N.lab p = -1) (m1 : 1 ≤ N.m) {p : Int} (p0 : 0 ≤ p) (p1 : p < N.n) {x : List Int} (hx : CX N 2 x) : ∃ y, CX N 2 y ∧ xf y p = 0 ∧ x = lst N.n (shF N.m (xf x p) (xf y)) := by
  have htop : mst N 2 = N.m - 1 := if_pos rfl
  have hb : ∀ q, 0 ≤ q → q < N.n → 0 ≤ xf x q ∧ xf x q < N.m := fun q q0 q1 => by
    have := hx.2.1 q q0 q1
    rw [htop] at this
    omega
  refine ⟨lst N.n (shF N.m (-(xf x p)) (xf x)), CX_sh G hl m1 _ hx, ?_, ?_⟩
  · rw [xf_lst _ p0 p1]
    show (xf x p + -(xf x p)) % N.m = 0
    rw [show xf x p + -(xf x p) = 0 by omega]
    exact Int.zero_emod _
  · conv => lhs; rw [← lst_xf hx.1]
    refine lst_ext (fun q q0 q1 => ?_)
    show xf x q = (xf (lst N.n (shF N.m (-(xf x p)) (xf x))) q + xf x p) % N.m
    rw [xf_lst _ q0 q1]
    show xf x q = ((xf x q + -(xf x p)) % N.m + xf x p) % N.m
    rw [Int.emod_add_emod, show xf x q + -(xf x p) + xf x p = xf x q by omega, Int.emod_eq_of_lt (hb q q0 q1).1 (hb q q0 q1).2]
def shl (m : Int) (L : Int → Int) : Nat → List (Int → Int)
  | 0 => [L]
  | t + 1 => shl m L t ++ [shF m ((t : Int) + 1) L]
theorem shl_fold (n m : Int) (L : Int → Int) (e : Ce) : ∀ t : Nat, (shl m L t).foldl (fun e M => cadd n M e) e = zfold (fun t e => cadd n (shF m (t + 1) L) e) (cadd n L e) (t : Int)
  | 0 => rfl
  | t + 1 => by
    show (shl m L t ++ [shF m ((t : Int) + 1) L]).foldl (fun e M => cadd n M e) e = _
    rw [List.foldl_append, shl_fold n m L e t, show ((t + 1 : Nat) : Int) = (t : Int) + 1 by omega, zfold_s _ _ (by omega)]
    rfl
theorem shl_mem {n m : Int} {L : Int → Int} (hL : ∀ q, 0 ≤ q → q < n → 0 ≤ L q ∧ L q < m) {x : List Int} : ∀ {t : Nat}, (t : Int) < m → (x ∈ (shl m L t).map (lst n) ↔ ∃ u : Nat, u ≤ t ∧ x = lst n (shF m u L))
  | 0, ht => by
    show x ∈ [lst n L] ↔ _
    have e : lst n L = lst n (shF m ((0 : Nat) : Int) L) := lst_ext (fun q q0 q1 => by
      have := hL q q0 q1
      show L q = (L q + ((0 : Nat) : Int)) % m
      rw [show L q + ((0 : Nat) : Int) = L q by omega, Int.emod_eq_of_lt this.1 this.2])
    rw [List.mem_singleton]
    constructor
    · intro h
      exact ⟨0, Nat.le_refl _, h.trans e⟩
    · rintro ⟨u, hu, h⟩
      rw [show u = 0 by omega] at h
      exact h.trans e.symm
  | t + 1, ht => by
    show x ∈ (shl m L t ++ [shF m ((t : Int) + 1) L]).map (lst n) ↔ _
    rw [List.map_append, List.mem_append, shl_mem hL (show (t : Int) < m by omega)]
    show _ ∨ x ∈ [lst n (shF m ((t : Int) + 1) L)] ↔ _
    rw [List.mem_singleton]
    constructor
    · rintro (⟨u, hu, h⟩ | h)
      · exact ⟨u, by omega, h⟩
      · exact ⟨t + 1, Nat.le_refl _, by rw [show ((t + 1 : Nat) : Int) = (t : Int) + 1 by omega]; exact h⟩
    · rintro ⟨u, hu, h⟩
      by_cases e : u = t + 1
      · subst e
        rw [show ((t + 1 : Nat) : Int) = (t : Int) + 1 by omega] at h
        exact Or.inr h
      · exact Or.inl ⟨u, by omega, h⟩
theorem sh_at {n m p : Int} {L : Int → Int} (p0 : 0 ≤ p) (p1 : p < n) (hp : L p = 0) {u : Nat} (hu : (u : Int) < m) : xf (lst n (shF m u L)) p = u := by
  rw [xf_lst _ p0 p1]
  show (L p + (u : Int)) % m = u
  rw [hp, show (0 : Int) + u = u by omega, Int.emod_eq_of_lt (by omega) hu]
theorem shl_nd {n m p : Int} {L : Int → Int} (hL : ∀ q, 0 ≤ q → q < n → 0 ≤ L q ∧ L q < m) (p0 : 0 ≤ p) (p1 : p < n) (hp : L p = 0) : ∀ {t : Nat}, (t : Int) < m → ((shl m L t).map (lst n)).Nodup
  | 0, _ => List.pairwise_singleton _ _
  | t + 1, ht => by
    show ((shl m L t ++ [shF m ((t : Int) + 1) L]).map (lst n)).Nodup
    rw [List.map_append]
    refine List.nodup_append.mpr ⟨shl_nd hL p0 p1 hp (by omega), List.pairwise_singleton _ _, fun x hx y hy e => ?_⟩
    obtain ⟨u, hu, h⟩ := (shl_mem hL (show (t : Int) < m by omega)).mp hx
    have hy' : y = lst n (shF m ((t : Int) + 1) L) := List.mem_singleton.mp hy
    have h1 := sh_at (n := n) p0 p1 hp (u := u) (show (u : Int) < m by omega)
    have h2 := sh_at (n := n) p0 p1 hp (u := t + 1) ht
    rw [show ((t + 1 : Nat) : Int) = (t : Int) + 1 by omega, ← hy', ← e, h, h1] at h2
    omega
def shK (m : Int) (t : Nat) : List (Int → Int) → List (Int → Int)
  | [] => []
  | L :: K => shl m L t ++ shK m t K
theorem shK_fold (n m : Int) (hm : 1 ≤ m) : ∀ (K : List (Int → Int)) (e : Ce), K.foldl (fun e L => adK true n m L e) e = (shK m (m - 1).toNat K).foldl (fun e M => cadd n M e) e
  | [], _ => rfl
  | L :: K, e => by
    show K.foldl (fun e L => adK true n m L e) (adK true n m L e) = (shl m L (m - 1).toNat ++ shK m (m - 1).toNat K).foldl (fun e M => cadd n M e) e
    rw [List.foldl_append, shl_fold, shK_fold n m hm K]
    congr 1
theorem shK_mem {n m : Int} {t : Nat} (ht : (t : Int) < m) {x : List Int} : ∀ {K : List (Int → Int)}, (∀ L, L ∈ K → ∀ q, 0 ≤ q → q < n → 0 ≤ L q ∧ L q < m) → (x ∈ (shK m t K).map (lst n) ↔ ∃ L, L ∈ K ∧ ∃ u : Nat, u ≤ t ∧ x = lst n (shF m u L))
  | [], _ => ⟨fun h => (by cases h), fun ⟨L, h, _⟩ => (by cases h)⟩
  | L :: K, h => by
    show x ∈ (shl m L t ++ shK m t K).map (lst n) ↔ _
    rw [List.map_append, List.mem_append, shl_mem (h L List.mem_cons_self) ht, shK_mem ht (fun M hM => h M (List.mem_cons_of_mem L hM))]
    constructor
    · rintro (h1 | ⟨M, h1, h2⟩)
      · exact ⟨L, List.mem_cons_self, h1⟩
      · exact ⟨M, List.mem_cons_of_mem L h1, h2⟩
    · rintro ⟨M, h1, h2⟩
      rcases List.mem_cons.mp h1 with h3 | h3
      · subst h3
        exact Or.inl h2
      · exact Or.inr ⟨M, h3, h2⟩
theorem sh_lst {n m : Int} {L M : Int → Int} {u : Int} (hL : ∀ q, 0 ≤ q → q < n → 0 ≤ L q ∧ L q < m) (hM : ∀ q, 0 ≤ q → q < n → 0 ≤ M q ∧ M q < m) (h : lst n (shF m u L) = lst n (shF m u M)) : lst n L = lst n M := by
  refine lst_ext (fun q q0 q1 => ?_)
  have h1 : xf (lst n (shF m u L)) q = xf (lst n (shF m u M)) q := by rw [h]
  rw [xf_lst _ q0 q1, xf_lst _ q0 q1] at h1
  exact (sh_eq (hL q q0 q1).1 (hL q q0 q1).2 (hM q q0 q1).1 (hM q q0 q1).2).mp h1
theorem shK_nd {n m p : Int} {t : Nat} (ht : (t : Int) < m) (p0 : 0 ≤ p) (p1 : p < n) : ∀ {K : List (Int → Int)}, (∀ L, L ∈ K → (∀ q, 0 ≤ q → q < n → 0 ≤ L q ∧ L q < m) ∧ L p = 0) → (K.map (lst n)).Nodup → ((shK m t K).map (lst n)).Nodup
  | [], _, _ => List.Pairwise.nil
  | L :: K, h, hd => by
    have hd2 := List.nodup_cons.mp hd
    have hL := h L List.mem_cons_self
    show ((shl m L t ++ shK m t K).map (lst n)).Nodup
    rw [List.map_append]
    refine List.nodup_append.mpr ⟨shl_nd hL.1 p0 p1 hL.2 ht, shK_nd ht p0 p1 (fun M hM => h M (List.mem_cons_of_mem L hM)) hd2.2, fun x hx y hy e => ?_⟩
    subst e
    obtain ⟨u, hu, h1⟩ := (shl_mem hL.1 ht).mp hx
    obtain ⟨M, hM, v, hv, h2⟩ := (shK_mem ht (fun M hM => (h M (List.mem_cons_of_mem L hM)).1)).mp hy
    have hM' := h M (List.mem_cons_of_mem L hM)
    have e1 := sh_at (n := n) p0 p1 hL.2 (u := u) (show (u : Int) < m by omega)
    have e2 := sh_at (n := n) p0 p1 hM'.2 (u := v) (show (v : Int) < m by omega)
    rw [← h1] at e1
    rw [← h2, e1] at e2
    have e3 : u = v := by omega
    subst e3
    apply hd2.1
    rw [sh_lst hL.1 hM'.1 (h1.symm.trans h2)]
    exact List.mem_map_of_mem hM
/-- with those shifted it is the same as all -/
theorem Res.shift (G : GN N) (hl : ∀ p, 0 ≤ p → p < N.n → N.lab p = -1) (m1 : 1 ≤ N.m) {p : Int} (p0 : 0 ≤ p) (p1 : p < N.n) {one st : Bool} {e e' : Ce} (R : Res N.n (adK true N.n N.m) one (fun x => CX N 2 x ∧ xf x p = 0) e e' st) : Res N.n (cadd N.n) one (CX N 2) e e' st := by
  have htop : mst N 2 = N.m - 1 := if_pos rfl
  obtain ⟨hw, R⟩ := R
  refine ⟨hw, ?_⟩
  rcases R with ⟨ho, ⟨a, b, x, hx⟩ | ⟨a, b, hx⟩⟩ | ⟨ho, a, K, k1, k2, k3⟩
  · exact Or.inl ⟨ho, Or.inl ⟨a, b, x, hx.1⟩⟩
  · refine Or.inl ⟨ho, Or.inr ⟨a, b, fun x h => ?_⟩⟩
    obtain ⟨y, h1, h2, -⟩ := CX_base G hl m1 p0 p1 h
    exact hx y ⟨h1, h2⟩
  · have hK : ∀ L, L ∈ K → (∀ q, 0 ≤ q → q < N.n → 0 ≤ L q ∧ L q < N.m) ∧ L p = 0 := fun L hL => by
      have h1 := (k2 (lst N.n L)).mp (List.mem_map_of_mem hL)
      refine ⟨fun q q0 q1 => ?_, ?_⟩
      · have h2 := h1.1.2.1 q q0 q1
        rw [xf_lst _ q0 q1, htop] at h2
        omega
      · have h2 := h1.2
        rw [xf_lst _ p0 p1] at h2
        exact h2
    have ht : (((N.m - 1).toNat : Nat) : Int) < N.m := by omega
    refine Or.inr ⟨ho, a, shK N.m (N.m - 1).toNat K, shK_nd ht p0 p1 hK k1, fun x => ?_, by rw [← shK_fold N.n N.m m1]; exact k3⟩
    rw [shK_mem ht (fun L hL => (hK L hL).1)]
    constructor
    · rintro ⟨L, hL, u, hu, rfl⟩
      have h1 := (k2 (lst N.n L)).mp (List.mem_map_of_mem hL)
      have h2 := CX_sh G hl m1 u h1.1
      have e : lst N.n (shF N.m u (xf (lst N.n L))) = lst N.n (shF N.m u L) := lst_ext (fun q q0 q1 => by
        unfold shF
        rw [xf_lst _ q0 q1])
      rw [e] at h2
      exact h2
    · intro h
      obtain ⟨y, h1, h2, h3⟩ := CX_base G hl m1 p0 p1 h
      obtain ⟨L, hL, h4⟩ := List.mem_map.mp ((k2 y).mpr ⟨h1, h2⟩)
      have hb := h.2.1 p p0 p1
      rw [htop] at hb
      refine ⟨L, hL, (xf x p).toNat, by omega, ?_⟩
      rw [Int.toNat_of_nonneg hb.1]
      conv => lhs; rw [h3]
      refine lst_ext (fun q q0 q1 => ?_)
      show (xf y q + xf x p) % N.m = (L q + xf x p) % N.m
      rw [← h4, xf_lst _ q0 q1]
end
