/-! UNLIKE: both counts -/
/-- every label that is there is the same when turned -/
def tkl (N : NR) (k : Int) : Bool := (zfind (fun p => !decide (N.lab p = -1) && !decide (2 * N.lab p = mst N k)) 0 N.n.toNat).isNone
def unlN (N : NR) (k f : Int) : Int := if k = 2 then (if zset (isL N) N.n = qI 0 ∧ 0 < N.m then f / N.m else f) else if tkl N k = true then (f + 1) / 2 else f
def trn (N : NR) (k : Int) (x : List Int) : List Int := lst N.n (fun p => mst N k - xf x p)
section
variable {N : NR} {k : Int}
theorem noL_iff (n0 : 0 ≤ N.n) (n7 : N.n ≤ 7) : zset (isL N) N.n = qI 0 ↔ ∀ p, 0 ≤ p → p < N.n → N.lab p = -1 := by
  constructor
  · intro h p p0 p1
    have h7 := bi_zset (p := isL N) n0 (show N.n ≤ 32 by omega) p0 (show p < 32 by omega)
    rw [h, bi_q0, decide_eq_true p1, Bool.true_and] at h7
    have h8 := h7.symm
    unfold isL at h8
    rw [Bool.not_eq_false', decide_eq_true_eq] at h8
    exact h8
  · intro h
    refine bi_ext (fun i i0 i1 => ?_)
    rw [bi_zset n0 (by omega) i0 i1, bi_q0]
    by_cases c : i < N.n
    · have e : isL N i = false := by
        unfold isL
        rw [decide_eq_true (h i i0 c)]
        rfl
      rw [e, Bool.and_false]
    · rw [decide_eq_false c, Bool.false_and]
theorem tkl_iff (n0 : 0 ≤ N.n) : tkl N k = true ↔ ∀ p, 0 ≤ p → p < N.n → N.lab p = -1 ∨ 2 * N.lab p = mst N k := by
  unfold tkl
  rw [zfind_isNone n0]
  constructor
  · intro h p p0 p1
    have := h p p0 p1
    by_cases a : N.lab p = -1
    · exact Or.inl a
    · by_cases b : 2 * N.lab p = mst N k
      · exact Or.inr b
      · rw [decide_eq_false a, decide_eq_false b] at this
        cases this
  · intro h p p0 p1
    rcases h p p0 p1 with a | a
    · rw [decide_eq_true a]
      rfl
    · rw [decide_eq_true a, Bool.not_true, Bool.and_false]
theorem fol_h1 {x : List Int} (hx : CX N 2 x) {p : Int} (p0 : 0 ≤ p) (p1 : p < N.n) (hp : N.lab p ≠ -1) : fol N (xf x) N.lab 2 = true := by
  refine fol_iff.mpr (fun i i1 i2 => lsb_no p0 p1 ?_)
  rw [if_pos rfl] at i2
  have e := hx.2.2.1 p p0 p1 hp
  have b := hx.2.1 p p0 p1
  rw [show mst N 2 = N.m - 1 from if_pos rfl, e] at b
  have t : tuV N (xf x) 2 i p = (xf x p + i) % N.m := if_pos rfl
  rw [e] at t
  have ne : ¬ N.lab p = tuV N (xf x) 2 i p := by
    rw [t]
    by_cases c : N.lab p + i < N.m
    · rw [Int.emod_eq_of_lt (by omega) c]
      omega
    · rw [em_sub (by omega) (by omega)]
      omega
  unfold lsP
  rw [decide_eq_false hp, decide_eq_false ne]
  rfl
theorem fol_h0 (n1 : 1 ≤ N.n) (hl : ∀ p, 0 ≤ p → p < N.n → N.lab p = -1) {x : List Int} (hx : CX N 2 x) : fol N (xf x) N.lab 2 = decide (xf x 0 = 0) := by
  have b := hx.2.1 0 (by omega) (by omega)
  rw [show mst N 2 = N.m - 1 from if_pos rfl] at b
  have L : ∀ i, 1 ≤ i → i < N.m → lsb N (xf x) N.lab 2 i = decide ((xf x 0 + i) % N.m < xf x 0) := fun i i1 i2 => by
    rw [lsb_all (fun p p0 p1 => by
      unfold lsP
      rw [decide_eq_true (hl p p0 p1)]
      rfl)]
    have t : tuV N (xf x) 2 i 0 = (xf x 0 + i) % N.m := if_pos rfl
    have ne : tuV N (xf x) 2 i 0 - xf x 0 ≠ 0 := by
      rw [t]
      by_cases c : xf x 0 + i < N.m
      · rw [Int.emod_eq_of_lt (by omega) c]
        omega
      · rw [em_sub (by omega) (by omega)]
        omega
    rw [fsd_1 (f := fun p => tuV N (xf x) 2 i p - xf x p) n1 ne]
    show decide (tuV N (xf x) 2 i 0 - xf x 0 < 0) = _
    rw [t]
    exact decide_eq_decide.mpr (by omega)
  apply zb_ext
  rw [fol_iff, decide_eq_true_eq, if_pos rfl]
  constructor
  · intro h
    by_cases z : xf x 0 = 0
    · exact z
    · exfalso
      have h1 := h (N.m - xf x 0) (by omega) (by omega)
      rw [L _ (by omega) (by omega), show xf x 0 + (N.m - xf x 0) = N.m by omega, Int.emod_self] at h1
      have := of_decide_eq_false h1
      omega
  · intro z i i1 i2
    rw [L i i1 i2, z]
    refine decide_eq_false ?_
    have := Int.emod_nonneg (0 + i) (show N.m ≠ 0 by omega)
    omega
theorem unl_h (G : GN N) (n1 : 1 ≤ N.n) (m1 : 1 ≤ N.m) (hl : ∀ p, 0 ≤ p → p < N.n → N.lab p = -1) {X : List (List Int)} (nd : X.Nodup) (m : ∀ x, x ∈ X ↔ CX N 2 x) : (X.length : Int) / N.m = ((X.countP (fun x => fol N (xf x) N.lab 2) : Nat) : Int) := by
  have bd : ∀ x, x ∈ X → ∀ p, 0 ≤ p → p < N.n → 0 ≤ xf x p ∧ xf x p < N.m := fun x hx p p0 p1 => by
    have b := ((m x).mp hx).2.1 p p0 p1
    rw [show mst N 2 = N.m - 1 from if_pos rfl] at b
    omega
  have e0 : X.countP (fun x => fol N (xf x) N.lab 2) = X.countP (fun x => decide (xf x 0 = 0)) := List.countP_congr (fun x hx => by rw [fol_h0 n1 hl ((m x).mp hx)])
  rw [e0]
  refine cnt_even (f := fun x => xf x 0) m1 (fun x hx => bd x hx 0 (by omega) (by omega)) (fun v v0 v1 => ?_)
  have back : ∀ s x, x ∈ X → lst N.n (shF N.m (-s) (xf (lst N.n (shF N.m s (xf x))))) = x := fun s x hx => by
    have hlen := ((m x).mp hx).1
    conv => rhs; rw [← lst_xf hlen]
    refine lst_ext (fun q q0 q1 => ?_)
    show (xf (lst N.n (shF N.m s (xf x))) q + -s) % N.m = xf x q
    rw [xf_lst _ q0 q1]
    show ((xf x q + s) % N.m + -s) % N.m = xf x q
    rw [Int.emod_add_emod, show xf x q + s + -s = xf x q by omega]
    have := bd x hx q q0 q1
    exact Int.emod_eq_of_lt this.1 this.2
  have P := map_perm nd (t := fun x => lst N.n (shF N.m v (xf x))) (u := fun x => lst N.n (shF N.m (-v) (xf x))) (fun x hx => ⟨(m _).mpr (CX_sh G hl m1 v ((m x).mp hx)), back v x hx⟩) (fun x hx => ⟨(m _).mpr (CX_sh G hl m1 (-v) ((m x).mp hx)), by
    have := back (-v) x hx
    rw [Int.neg_neg] at this
    exact this⟩)
  have e1 := P.countP_eq (fun x => decide (xf x 0 = v))
  rw [List.countP_map] at e1
  refine e1.symm.trans (List.countP_congr (fun x hx => ?_))
  show decide (xf (lst N.n (shF N.m v (xf x))) 0 = v) = true ↔ decide (xf x 0 = 0) = true
  rw [xf_lst _ (by omega) (by omega), decide_eq_true_eq, decide_eq_true_eq]
  show (xf x 0 + v) % N.m = v ↔ xf x 0 = 0
  have b := bd x hx 0 (by omega) (by omega)
  by_cases c : xf x 0 + v < N.m
  · rw [Int.emod_eq_of_lt (by omega) c]
    omega
  · rw [em_sub (by omega) (by omega)]
    omega
theorem xf_trn {x : List Int} {p : Int} (p0 : 0 ≤ p) (p1 : p < N.n) : xf (trn N k x) p = mst N k - xf x p := xf_lst _ p0 p1
theorem zsum_rev {f : Int → Int} {n : Int} (n0 : 0 ≤ n) : zsum (fun p => 1 - f p) n = n - zsum f n := by
  refine z_ind (P := fun n => zsum (fun p => 1 - f p) n = n - zsum f n) rfl (fun i hi ih => ?_) n0
  rw [zsum_s _ hi, zsum_s _ hi, ih]
  omega
theorem CX_trn (G : GN N) (hk : k ≠ 2) (hl : ∀ p, 0 ≤ p → p < N.n → N.lab p = -1 ∨ 2 * N.lab p = mst N k) {x : List Int} (hx : CX N k x) : CX N k (trn N k x) := by
  have n0 := G.w.n0
  have m0 := G.w.m0
  have m10 := G.w.m10
  have mb := mst_b3 G.w k
  obtain ⟨x1, x2, x3, x4, x5, x6⟩ := hx
  have he : ∀ p, 0 ≤ p → p < N.n → xf (trn N k x) p = (fun p => mst N k - xf x p) p := fun p p0 p1 => xf_trn p0 p1
  have hd : ∀ i, 0 ≤ i → i < N.m → dif N (fun p => mst N k - xf x p) i = dif N (xf x) i := fun i _ _ => by
    show zab (mst N k - xf x (N.lo i) - (mst N k - xf x (N.hi i))) = zab (xf x (N.lo i) - xf x (N.hi i))
    unfold zab
    omega
  have hw : ∀ i, 0 ≤ i → i < N.m → wof N (xf (trn N k x)) k i = wof N (xf x) k i := fun i i0 i1 => by
    rw [wof_congr G he i0 i1]
    unfold wof
    rw [if_neg hk, if_neg hk]
    exact hd i i0 i1
  refine ⟨lst_len _ _, fun p p0 p1 => ?_, fun p p0 p1 hp => ?_, ?_, fun h4 => ⟨fun i j j0 ji im => ?_, fun i i0 i1 => ?_⟩, ?_⟩
  · rw [xf_trn p0 p1]
    have := x2 p p0 p1
    omega
  · rw [xf_trn p0 p1]
    have e1 := x3 p p0 p1 hp
    have e2 := (hl p p0 p1).resolve_left hp
    omega
  · rw [rpt_congr n0 he, rpt_dbl n0 (fun p p0 p1 => by
      have := x2 p p0 p1
      show 0 ≤ mst N k - xf x p ∧ mst N k - xf x p ≤ 20
      omega)]
    rw [rpt_dbl n0 (fun p p0 p1 => by have := x2 p p0 p1; omega)] at x4
    rw [dbl_same n0 (Y := xf x) (fun p q p0 p1 q0 q1 => by
      show mst N k - xf x p = mst N k - xf x q ↔ _
      omega)]
    exact x4
  · rw [hw j j0 (by omega), hw i (by omega) im]
    exact (x5 h4).1 i j j0 ji im
  · rw [hw i i0 i1]
    exact (x5 h4).2 i i0 i1
  · rw [kpS_congr G he]
    unfold kpS at x6 ⊢
    by_cases h1 : k = 1
    · rw [if_pos h1] at x6 ⊢
      have s := (spl_iff m10 _).mp x6
      refine (spl_iff m10 _).mpr (fun i j i0 i1 j0 j1 => ?_)
      have := s j i j0 j1 i0 i1
      show min (mst N k - xf x (N.lo i)) (mst N k - xf x (N.hi i)) < max (mst N k - xf x (N.lo j)) (mst N k - xf x (N.hi j))
      omega
    · rw [if_neg h1] at x6 ⊢
      by_cases h4 : k = 4
      · rw [if_pos h4] at x6 ⊢
        have em := mb.2.2 h4
        unfold bal at x6 ⊢
        have s := of_decide_eq_true x6
        refine decide_eq_true ?_
        have z1 := zsum_rev (f := xf x) n0
        rw [zsum_congr hd m0, em, z1]
        unfold zab at s ⊢
        omega
      · rw [if_neg h4]
theorem trn_trn {x : List Int} (h : x.length = N.n.toNat) : trn N k (trn N k x) = x := by
  conv => rhs; rw [← lst_xf h]
  refine lst_ext (fun q q0 q1 => ?_)
  show mst N k - xf (trn N k x) q = xf x q
  rw [xf_trn q0 q1]
  omega
theorem fol_t1 (n0 : 0 ≤ N.n) (hk : k ≠ 2) (hl : ∀ p, 0 ≤ p → p < N.n → N.lab p = -1 ∨ 2 * N.lab p = mst N k) {x : List Int} (hx : CX N k x) : fol N (xf x) N.lab k = !decide (fsd (fun p => mst N k - 2 * xf x p) N.n < 0) := by
  have t : ∀ i p, tuV N (xf x) k i p = mst N k - xf x p := fun i p => if_neg hk
  have L : lsb N (xf x) N.lab k 1 = decide (fsd (fun p => mst N k - 2 * xf x p) N.n < 0) := by
    rw [lsb_all (fun p p0 p1 => by
      unfold lsP
      rw [t]
      by_cases a : N.lab p = -1
      · rw [decide_eq_true a]
        rfl
      · have e1 := hx.2.2.1 p p0 p1 a
        have e2 := (hl p p0 p1).resolve_left a
        rw [decide_eq_true (show N.lab p = mst N k - xf x p by omega), Bool.not_true, Bool.and_false])]
    rw [fsd_cg (h := fun p => mst N k - 2 * xf x p) n0 (fun p p0 p1 => by
      show tuV N (xf x) k 1 p - xf x p = mst N k - 2 * xf x p
      rw [t]
      omega)]
  apply zb_ext
  rw [fol_iff, if_neg hk, ← L, Bool.not_eq_true']
  constructor
  · intro h
    exact h 1 (by omega) (by omega)
  · intro h i i1 i2
    rw [show i = 1 by omega]
    exact h
theorem fol_t0 (hk : k ≠ 2) {x : List Int} (hx : CX N k x) {p : Int} (p0 : 0 ≤ p) (p1 : p < N.n) (hp : N.lab p ≠ -1) (hm : 2 * N.lab p ≠ mst N k) : fol N (xf x) N.lab k = true := by
  refine fol_iff.mpr (fun i i1 i2 => lsb_no p0 p1 ?_)
  have t : tuV N (xf x) k i p = mst N k - xf x p := if_neg hk
  have e1 := hx.2.2.1 p p0 p1 hp
  unfold lsP
  rw [t, decide_eq_false hp, decide_eq_false (show ¬ N.lab p = mst N k - xf x p by omega)]
  rfl
theorem nd_one {X : List (List Int)} (nd : X.Nodup) {y : List Int} (h : ∀ x, x ∈ X → x = y) : X.length ≤ 1 := by
  match X, nd, h with
  | [], _, _ => exact Nat.zero_le _
  | [_], _, _ => exact Nat.le_refl _
  | a :: b :: T, nd, h =>
    exfalso
    have h1 := h a List.mem_cons_self
    have h2 := h b (List.mem_cons_of_mem a List.mem_cons_self)
    exact (List.nodup_cons.mp nd).1 (by rw [h1, ← h2]; exact List.mem_cons_self)
theorem unl_ok (G : GN N) (n1 : 1 ≤ N.n) (k0 : 0 ≤ k) (k4 : k ≤ 4) {X : List (List Int)} (nd : X.Nodup) (m : ∀ x, x ∈ X ↔ CX N k x) : ((X.countP (fun x => fol N (xf x) N.lab k) : Nat) : Int) = unlN N k X.length := by
  have n0 := G.w.n0
  have n7 := G.w.n7
  have m0 := G.w.m0
  have mb := mst_b3 G.w k
  have all : (∀ x, x ∈ X → fol N (xf x) N.lab k = true) → ((X.countP (fun x => fol N (xf x) N.lab k) : Nat) : Int) = X.length := fun h => by rw [List.countP_eq_length.mpr h]
  unfold unlN
  by_cases h2 : k = 2
  · subst h2
    rw [if_pos rfl]
    by_cases hz : zset (isL N) N.n = qI 0 ∧ 0 < N.m
    · rw [if_pos hz]
      exact (unl_h G n1 (by omega) ((noL_iff n0 n7).mp hz.1) nd m).symm
    · rw [if_neg hz]
      refine all (fun x hx => ?_)
      by_cases he : ∃ p, 0 ≤ p ∧ p < N.n ∧ N.lab p ≠ -1
      · obtain ⟨p, p0, p1, hp⟩ := he
        exact fol_h1 ((m x).mp hx) p0 p1 hp
      · exfalso
        have h3 := (noL_iff n0 n7).mpr (fun p p0 p1 => Decidable.byContradiction (fun q => he ⟨p, p0, p1, q⟩))
        have b := ((m x).mp hx).2.1 0 (by omega) (by omega)
        rw [show mst N 2 = N.m - 1 from if_pos rfl] at b
        exact hz ⟨h3, by omega⟩
  · rw [if_neg h2]
    cases ht : tkl N k with
    | false =>
      rw [if_neg (by decide)]
      refine all (fun x hx => ?_)
      by_cases he : ∃ p, 0 ≤ p ∧ p < N.n ∧ N.lab p ≠ -1 ∧ 2 * N.lab p ≠ mst N k
      · obtain ⟨p, p0, p1, hp, hq⟩ := he
        exact fol_t0 h2 ((m x).mp hx) p0 p1 hp hq
      · exfalso
        have h3 := (tkl_iff (k := k) n0).mpr (fun p p0 p1 => by
          by_cases a : N.lab p = -1
          · exact Or.inl a
          · by_cases b : 2 * N.lab p = mst N k
            · exact Or.inr b
            · exact absurd ⟨p, p0, p1, a, b⟩ he)
        rw [ht] at h3
        cases h3
    | true =>
      rw [if_pos rfl]
      have hl := (tkl_iff n0).mp ht
      by_cases hfix : N.n = 1 ∧ k ≤ 1
      · have em : mst N k = N.m := by
          unfold mst
          rw [if_neg h2, if_neg (by omega), if_neg (by omega)]
        have hm : N.m = 0 := by
          by_cases z : 0 < N.m
          · have g1 := G.lh 0 (by omega) z
            have g2 := G.w.lo 0
            omega
          · omega
        have h0 : ∀ x, x ∈ X → xf x 0 = 0 := fun x hx => by
          have b := ((m x).mp hx).2.1 0 (by omega) (by omega)
          omega
        have len := nd_one nd (y := lst N.n (fun _ => 0)) (fun x hx => by
          rw [← lst_xf ((m x).mp hx).1]
          refine lst_ext (fun q q0 q1 => ?_)
          rw [show q = 0 by omega]
          exact h0 x hx)
        rw [all (fun x hx => by
          rw [fol_t1 n0 h2 hl ((m x).mp hx), (fsd_z n0).mpr (fun p p0 p1 => by
            rw [show p = 0 by omega, h0 x hx]
            omega)]
          rfl)]
        omega
      · have hc := half_cnt nd (t := trn N k) (b := fun x => fol N (xf x) N.lab k) (fun x hx => by
          have cx := (m x).mp hx
          have ct := CX_trn G h2 hl cx
          refine ⟨(m _).mpr ct, trn_trn cx.1, ?_⟩
          have hF : fsd (fun p => mst N k - 2 * xf x p) N.n ≠ 0 := fun z => by
            have a := (fsd_z n0).mp z
            have a0 := a 0 (by omega) (by omega)
            by_cases k1 : k ≤ 1
            · have a1 := a 1 (by omega) (by omega)
              have er : rpa N k = 0 := by
                unfold rpa
                rw [if_neg (by omega), if_neg (fun q => h2 q.1)]
              have r4 := cx.2.2.2.1
              rw [er] at r4
              exact rpt_inj (fun p p0 p1 => by have := cx.2.1 p p0 p1; omega) r4 (q := 0) (p := 1) (by omega) (by omega) (by omega) (by omega)
            · by_cases k3 : k = 3
              · have em : mst N k = 2 * N.m - 1 := by
                  unfold mst
                  rw [if_neg h2, if_pos k3]
                omega
              · have em := mb.2.2 (by omega)
                omega
          show fol N (xf (trn N k x)) N.lab k = !fol N (xf x) N.lab k
          rw [fol_t1 n0 h2 hl ct, fol_t1 n0 h2 hl cx, fsd_neg (f := fun p => mst N k - 2 * xf x p) n0 (fun p p0 p1 => by
            show mst N k - 2 * xf (trn N k x) p = - (mst N k - 2 * xf x p)
            rw [xf_trn p0 p1]
            omega), Bool.not_not]
          by_cases c : fsd (fun p => mst N k - 2 * xf x p) N.n < 0
          · rw [decide_eq_true c, decide_eq_false (by omega)]
            rfl
          · rw [decide_eq_false c, decide_eq_true (by omega)]
            rfl)
        omega
end
