/-! WHAT HANGS TOGETHER, AND TWO SIDES (pure) -/
theorem zcnt_le {p q : Int → Bool} {n : Int} (h0 : 0 ≤ n) (h : ∀ k, 0 ≤ k → k < n → p k = true → q k = true) : zcnt p n ≤ zcnt q n := by
  rw [zcnt_sum p h0, zcnt_sum q h0]
  have h1 : 0 ≤ zsum (fun k => (if q k = true then (1 : Int) else 0) + (-1) * (if p k = true then 1 else 0)) n := by
    refine zsum_nonneg h0 (fun k h2 h3 => ?_)
    by_cases e : p k = true
    · rw [if_pos e, if_pos (h k h2 h3 e)]
      omega
    · rw [if_neg e]
      split <;> omega
  rw [zsum_add _ _ h0, zsum_mul _ _ h0] at h1
  omega
theorem zcnt_lt {p q : Int → Bool} {n a : Int} (ha0 : 0 ≤ a) (ha : a < n) (h : ∀ k, 0 ≤ k → k < n → p k = true → q k = true) (e1 : p a = false) (e2 : q a = true) : zcnt p n + 1 ≤ zcnt q n := by
  have h0 : 0 ≤ n := by omega
  rw [zcnt_sum p h0, zcnt_sum q h0]
  have h1 : 0 ≤ zsum (fun k => ((if q k = true then (1 : Int) else 0) + (-1) * (if p k = true then 1 else 0)) + (-1) * (if k = a then 1 else 0)) n := by
    refine zsum_nonneg h0 (fun k h2 h3 => ?_)
    by_cases e : k = a
    · subst e
      rw [e1, e2, if_pos rfl, if_neg (by decide), if_pos rfl]
      omega
    · rw [if_neg e]
      by_cases e : p k = true
      · rw [if_pos e, if_pos (h k h2 h3 e)]
        omega
      · rw [if_neg e]
        split <;> omega
  rw [zsum_add _ _ h0, zsum_add _ _ h0, zsum_mul _ _ h0, zsum_mul _ _ h0, zsum_one (f := fun k => if k = a then (1 : Int) else 0) ha0 ha (fun k _ _ h9 => if_neg h9), if_pos rfl] at h1
  omega
theorem zcnt_pos {p : Int → Bool} {n a : Int} (ha0 : 0 ≤ a) (ha : a < n) (e : p a = true) : 1 ≤ zcnt p n := by
  have h := zcnt_lt (p := fun _ => false) (q := p) ha0 ha (fun k _ _ h => by cases h) rfl e
  rw [zcnt_zero (by omega) (fun _ _ _ => rfl)] at h
  omega
section
variable {N : NR}
/-- points alone -/
def rgN (N : NR) (u : Int32) : Prop := ∀ x, 0 ≤ x → x < 32 → bi u x = true → x < N.n
theorem bi_nby (N : NR) (u : Int32) {n : Int} (h : 0 ≤ n) (y : Int) : bi (nby N u n) y = true ↔ ∃ p, 0 ≤ p ∧ p < n ∧ bi u p = true ∧ bi (N.bes p) y = true := by
  refine z_ind (P := fun n => bi (nby N u n) y = true ↔ ∃ p, 0 ≤ p ∧ p < n ∧ bi u p = true ∧ bi (N.bes p) y = true) ?_ (fun i hi ih => ?_) h
  · show bi (qI 0) y = true ↔ _
    rw [bi_q0]
    constructor
    · intro h
      cases h
    · rintro ⟨p, h1, h2, -⟩
      omega
  · have e : nby N u (i + 1) = if bi u i = true then nby N u i ||| N.bes i else nby N u i := zfold_s _ _ hi
    rw [e]
    by_cases hb : bi u i = true
    · rw [if_pos hb, bi_or, Bool.or_eq_true, ih]
      constructor
      · rintro (⟨p, h1, h2, h3, h4⟩ | h3)
        · exact ⟨p, h1, by omega, h3, h4⟩
        · exact ⟨i, hi, by omega, hb, h3⟩
      · rintro ⟨p, h1, h2, h3, h4⟩
        by_cases e : p = i
        · subst e
          exact Or.inr h4
        · exact Or.inl ⟨p, h1, by omega, h3, h4⟩
    · rw [if_neg hb, ih]
      constructor
      · rintro ⟨p, h1, h2, h3, h4⟩
        exact ⟨p, h1, by omega, h3, h4⟩
      · rintro ⟨p, h1, h2, h3, h4⟩
        by_cases e : p = i
        · subst e
          exact absurd h3 hb
        · exact ⟨p, h1, by omega, h3, h4⟩
theorem bi_cl1 (G : GN N) (u : Int32) (y : Int) : bi (cl1 N u) y = true ↔ bi u y = true ∨ ∃ p, 0 ≤ p ∧ p < N.n ∧ bi u p = true ∧ bi (N.bes p) y = true := by
  unfold cl1
  rw [bi_or, Bool.or_eq_true, bi_nby N u G.w.n0]
theorem cl1_rg (G : GN N) {u : Int32} (h : rgN N u) : rgN N (cl1 N u) := by
  have n7 := G.w.n7
  intro x h0 h1 h2
  rcases (bi_cl1 G u x).mp h2 with h3 | ⟨p, h3, h4, -, h5⟩
  · exact h x h0 h1 h3
  · exact (G.rng h3 (by omega) h0 h1 h5).2.1
theorem card_rg (G : GN N) {u : Int32} (h : rgN N u) : Jvm.Pilot.CFairLabelsLaw_law_r8514_2f2354.card u ≤ N.n := by
  have n0 := G.w.n0
  have n7 := G.w.n7
  unfold Jvm.Pilot.CFairLabelsLaw_law_r8514_2f2354.card
  rw [zcnt_cut (b := N.n) n0 (by omega) (fun k h1 h2 => ?_)]
  · exact (zcnt_bd _ n0).2
  · cases e : bi u k with
    | false => rfl
    | true =>
      have := h k (by omega) (by omega) e
      omega
theorem set_new {u v : Int32} (h : ∀ y, bi u y = true → bi v y = true) (hne : v ≠ u) : ∃ y, 0 ≤ y ∧ y < 32 ∧ bi v y = true ∧ bi u y = false := by
  apply Classical.byContradiction
  intro hno
  apply hne
  apply bi_ext
  intro y h0 h1
  cases e1 : bi u y with
  | true => exact h y e1
  | false =>
    cases e2 : bi v y with
    | false => rfl
    | true => exact absurd ⟨y, h0, h1, e2, e1⟩ hno
theorem card_new (G : GN N) {u v : Int32} (hv : rgN N v) (h : ∀ y, bi u y = true → bi v y = true) (hne : v ≠ u) : Jvm.Pilot.CFairLabelsLaw_law_r8514_2f2354.card u + 1 ≤ Jvm.Pilot.CFairLabelsLaw_law_r8514_2f2354.card v := by
  have n7 := G.w.n7
  obtain ⟨y, h0, h1, h2, h3⟩ := set_new h hne
  have h4 := hv y h0 h1 h2
  exact zcnt_lt h0 (by omega) (fun k _ _ h9 => h k h9) h3 h2
theorem clk_rg (G : GN N) {u : Int32} (h : rgN N u) {i : Int} (hi : 0 ≤ i) : rgN N (clk N u i) := by
  refine z_ind (P := fun i => rgN N (clk N u i)) h (fun i h0 ih => ?_) hi
  rw [clk_s N u h0]
  exact cl1_rg G ih
theorem clk_up (G : GN N) {u : Int32} {x i : Int} (hi : 0 ≤ i) (h : bi u x = true) : bi (clk N u i) x = true := by
  refine z_ind (P := fun i => bi (clk N u i) x = true) h (fun i h0 ih => ?_) hi
  rw [clk_s N u h0]
  exact (bi_cl1 G _ x).mpr (Or.inl ih)
theorem clk_fix (G : GN N) {u : Int32} (h : rgN N u) {x : Int} (hx0 : 0 ≤ x) (hx : x < 32) (hu : bi u x = true) {i : Int} (hi : N.n ≤ i) : cl1 N (clk N u i) = clk N u i := by
  have n0 := G.w.n0
  have key : cl1 N (clk N u i) = clk N u i ∨ i + 1 ≤ Jvm.Pilot.CFairLabelsLaw_law_r8514_2f2354.card (clk N u i) := by
    refine z_ind (P := fun i => cl1 N (clk N u i) = clk N u i ∨ i + 1 ≤ Jvm.Pilot.CFairLabelsLaw_law_r8514_2f2354.card (clk N u i)) ?_ (fun i h0 ih => ?_) (show 0 ≤ i by omega)
    · right
      have h1 := h x hx0 hx hu
      have h2 := G.w.n7
      have h3 : 1 ≤ Jvm.Pilot.CFairLabelsLaw_law_r8514_2f2354.card u := zcnt_pos hx0 (by omega) hu
      show 0 + 1 ≤ Jvm.Pilot.CFairLabelsLaw_law_r8514_2f2354.card u
      omega
    · rw [clk_s N u h0]
      by_cases e : cl1 N (clk N u i) = clk N u i
      · left
        rw [e, e]
      · right
        rcases ih with ih | ih
        · exact absurd ih e
        · have := card_new G (cl1_rg G (clk_rg G h h0)) (fun y hy => (bi_cl1 G _ y).mpr (Or.inl hy)) e
          omega
  rcases key with key | key
  · exact key
  · have := card_rg G (clk_rg G h (show 0 ≤ i by omega))
    omega
theorem clk_least (G : GN N) {u : Int32} (S : Int → Prop) (hS : ∀ p y, 0 ≤ p → p < N.n → S p → 0 ≤ y → y < 32 → bi (N.bes p) y = true → S y) (hu : ∀ x, 0 ≤ x → x < 32 → bi u x = true → S x) {i : Int} (hi : 0 ≤ i) : ∀ x, 0 ≤ x → x < 32 → bi (clk N u i) x = true → S x := by
  have n7 := G.w.n7
  refine z_ind (P := fun i => ∀ x, 0 ≤ x → x < 32 → bi (clk N u i) x = true → S x) hu (fun i h0 ih => ?_) hi
  intro x h1 h2 h3
  rw [clk_s N u h0] at h3
  rcases (bi_cl1 G _ x).mp h3 with h4 | ⟨p, h4, h5, h6, h7⟩
  · exact ih x h1 h2 h4
  · exact hS p x h4 h5 (ih p h4 (by omega) h6) h1 h2 h7
theorem cl1_closed (G : GN N) {u : Int32} (h : cl1 N u = u) {p y : Int} (h0 : 0 ≤ p) (h1 : p < N.n) (h2 : bi u p = true) (h3 : bi (N.bes p) y = true) : bi u y = true := by
  rw [← h]
  exact (bi_cl1 G u y).mpr (Or.inr ⟨p, h0, h1, h2, h3⟩)
/-- all that hang together with p -/
def Rc (N : NR) (p : Int) : Int32 := clk N (sb p) N.n
theorem sb_rg (G : GN N) {p : Int} (h0 : 0 ≤ p) (h1 : p < N.n) : rgN N (sb p) := by
  have n7 := G.w.n7
  intro x h2 h3 h4
  rw [bi_sb h0 (by omega) h2 h3] at h4
  have := of_decide_eq_true h4
  omega
theorem sb_self {p : Int} (h0 : 0 ≤ p) (h1 : p < 32) : bi (sb p) p = true := by
  rw [bi_sb h0 h1 h0 h1]
  exact decide_eq_true rfl
theorem Rc_self (G : GN N) {p : Int} (h0 : 0 ≤ p) (h1 : p < N.n) : bi (Rc N p) p = true := by
  have n7 := G.w.n7
  exact clk_up G G.w.n0 (sb_self h0 (by omega))
theorem Rc_fix (G : GN N) {p : Int} (h0 : 0 ≤ p) (h1 : p < N.n) : cl1 N (Rc N p) = Rc N p := by
  have n7 := G.w.n7
  exact clk_fix G (sb_rg G h0 h1) h0 (by omega) (sb_self h0 (by omega)) (Int.le_refl _)
theorem Rc_rg (G : GN N) {p : Int} (h0 : 0 ≤ p) (h1 : p < N.n) : rgN N (Rc N p) := clk_rg G (sb_rg G h0 h1) G.w.n0
theorem Rc_least (G : GN N) {p : Int} (h0 : 0 ≤ p) (h1 : p < N.n) (S : Int → Prop) (hS : ∀ p y, 0 ≤ p → p < N.n → S p → 0 ≤ y → y < 32 → bi (N.bes p) y = true → S y) (hp : S p) : ∀ x, 0 ≤ x → x < 32 → bi (Rc N p) x = true → S x := by
  have n7 := G.w.n7
  refine clk_least G S hS (fun x h2 h3 h4 => ?_) G.w.n0
  rw [bi_sb h0 (by omega) h2 h3] at h4
  rw [of_decide_eq_true h4]
  exact hp
theorem Rc_sub (G : GN N) {p q : Int} (hp0 : 0 ≤ p) (hp : p < N.n) (hq0 : 0 ≤ q) (hq : q < N.n) (h : bi (Rc N q) p = true) : ∀ x, 0 ≤ x → x < 32 → bi (Rc N p) x = true → bi (Rc N q) x = true :=
  Rc_least G hp0 hp (fun x => bi (Rc N q) x = true) (fun a y h0 h1 h2 _ _ h5 => cl1_closed G (Rc_fix G hq0 hq) h0 h1 h2 h5) h
theorem Rc_sym (G : GN N) {p q : Int} (hp0 : 0 ≤ p) (hp : p < N.n) (hq0 : 0 ≤ q) (hq : q < N.n) (h : bi (Rc N q) p = true) : bi (Rc N p) q = true := by
  have n7 := G.w.n7
  cases e : bi (Rc N p) q with
  | true => rfl
  | false =>
    have h1 := Rc_least G hq0 hq (fun x => bi (Rc N p) x = false) (fun a y h0 h1 h2 h3 h4 h5 => by
      cases e2 : bi (Rc N p) y with
      | false => rfl
      | true =>
        have h6 := G.rng h0 (by omega) h3 h4 h5
        have h7 : bi (N.bes y) a = true := by rw [← G.sym h0 (by omega) h3 (by omega)]; exact h5
        have h8 := cl1_closed G (Rc_fix G hp0 hp) h3 h6.2.1 e2 h7
        rw [h2] at h8
        cases h8) e p hp0 (by omega) h
    rw [Rc_self G hp0 hp] at h1
    cases h1
/-- the least of those that hang together -/
def isMn (N : NR) (p : Int) : Bool := (zfind (fun q => bi (Rc N p) q) 0 p.toNat).isNone
theorem isMn_iff (N : NR) {p : Int} (hp : 0 ≤ p) : isMn N p = true ↔ ∀ q, 0 ≤ q → q < p → bi (Rc N p) q = false := by
  unfold isMn
  cases e : zfind (fun q => bi (Rc N p) q) 0 p.toNat with
  | none =>
    simp only [Option.isNone_none, true_iff]
    intro q h1 h2
    exact zfind_none e q h1 (by omega)
  | some z =>
    obtain ⟨h1, h2, h3, h4⟩ := zfind_some e
    simp only [Option.isNone_some, Bool.false_eq_true, false_iff]
    intro h5
    have h6 := h5 z h1 (by omega)
    rw [h6] at h3
    cases h3
theorem nparts_eq (G : GN N) {i : Int} (hi : 0 ≤ i) (hin : i ≤ N.n) : (∀ x, 0 ≤ x → x < 32 → (bi (nparts N i).1 x = true ↔ ∃ q, 0 ≤ q ∧ q < i ∧ bi (Rc N q) x = true)) ∧ (nparts N i).2 = zcnt (isMn N) i := by
  have n7 := G.w.n7
  revert hin
  refine z_ind (P := fun i => i ≤ N.n → (∀ x, 0 ≤ x → x < 32 → (bi (nparts N i).1 x = true ↔ ∃ q, 0 ≤ q ∧ q < i ∧ bi (Rc N q) x = true)) ∧ (nparts N i).2 = zcnt (isMn N) i) ?_ (fun i h0 ih => ?_) hi
  · intro _
    refine ⟨fun x _ _ => ?_, rfl⟩
    show bi (qI 0) x = true ↔ _
    rw [bi_q0]
    constructor
    · intro h
      cases h
    · rintro ⟨q, h1, h2, -⟩
      omega
  · intro hin
    obtain ⟨ih1, ih2⟩ := ih (by omega)
    rw [nparts_s N h0, zcnt_s _ h0]
    unfold nparts1
    by_cases hb : bi (nparts N i).1 i = true
    · rw [if_pos hb]
      obtain ⟨q, hq0, hq, hqi⟩ := (ih1 i h0 (by omega)).mp hb
      have hm : isMn N i = false := by
        cases e : isMn N i with
        | false => rfl
        | true =>
          have h1 := (isMn_iff N h0).mp e q hq0 hq
          rw [Rc_sym G h0 (by omega) hq0 (by omega) hqi] at h1
          cases h1
      rw [hm, if_neg (by decide)]
      refine ⟨fun x hx0 hx => ?_, ih2⟩
      rw [ih1 x hx0 hx]
      constructor
      · rintro ⟨k, h1, h2, h3⟩
        exact ⟨k, h1, by omega, h3⟩
      · rintro ⟨k, h1, h2, h3⟩
        by_cases e : k = i
        · subst e
          exact ⟨q, hq0, hq, Rc_sub G h1 (by omega) hq0 (by omega) hqi x hx0 hx h3⟩
        · exact ⟨k, h1, by omega, h3⟩
    · rw [if_neg hb]
      have hb' := Bool.eq_false_iff.mpr hb
      have hm : isMn N i = true := (isMn_iff N h0).mpr (fun q hq0 hq => by
        cases e : bi (Rc N i) q with
        | false => rfl
        | true =>
          have h1 := Rc_sym G (p := q) (q := i) hq0 (by omega) h0 (by omega) e
          exact absurd ((ih1 i h0 (by omega)).mpr ⟨q, hq0, hq, h1⟩) hb)
      rw [hm, if_pos rfl]
      refine ⟨fun x hx0 hx => ?_, by rw [ih2]⟩
      have hmem : ∀ y, 0 ≤ y → y < 32 → (bi ((nparts N i).1 ||| sb i) y = true ↔ bi (nparts N i).1 y = true ∨ y = i) := by
        intro y h1 h2
        rw [bi_or, Bool.or_eq_true, bi_sb h0 (by omega) h1 h2, decide_eq_true_eq]
      have hrg : rgN N ((nparts N i).1 ||| sb i) := by
        intro y h1 h2 h3
        rcases (hmem y h1 h2).mp h3 with h4 | h4
        · obtain ⟨q, h5, h6, h7⟩ := (ih1 y h1 h2).mp h4
          exact Rc_rg G h5 (by omega) y h1 h2 h7
        · omega
      have hself : bi ((nparts N i).1 ||| sb i) i = true := (hmem i h0 (by omega)).mpr (Or.inr rfl)
      have hfix := clk_fix G hrg h0 (by omega) hself (Int.le_refl N.n)
      show bi (clk N ((nparts N i).1 ||| sb i) N.n) x = true ↔ _
      constructor
      · refine clk_least G (fun x => ∃ q, 0 ≤ q ∧ q < i + 1 ∧ bi (Rc N q) x = true) ?_ (fun y h1 h2 h3 => ?_) G.w.n0 x hx0 hx
        · rintro p y h1 h2 ⟨q, h3, h4, h5⟩ h6 h7 h8
          exact ⟨q, h3, h4, cl1_closed G (Rc_fix G h3 (by omega)) h1 h2 h5 h8⟩
        · rcases (hmem y h1 h2).mp h3 with h4 | h4
          · obtain ⟨q, h5, h6, h7⟩ := (ih1 y h1 h2).mp h4
            exact ⟨q, h5, by omega, h7⟩
          · subst h4
            exact ⟨y, h1, by omega, Rc_self G h1 (by omega)⟩
      · rintro ⟨q, h1, h2, h3⟩
        by_cases e : q = i
        · subst e
          exact Rc_least G h1 (by omega) (fun x => bi (clk N ((nparts N q).1 ||| sb q) N.n) x = true) (fun a y h4 h5 h6 _ _ h9 => cl1_closed G hfix h4 h5 h6 h9) (clk_up G G.w.n0 hself) x hx0 hx h3
        · exact clk_up G G.w.n0 ((hmem x hx0 hx).mpr (Or.inl ((ih1 x hx0 hx).mpr ⟨q, h1, by omega, h3⟩)))
/-! two sides -/
def clr (N : NR) (f : Int → Bool) : Prop := ∀ p y, 0 ≤ p → p < N.n → 0 ≤ y → y < 32 → bi (N.bes p) y = true → f p ≠ f y
theorem ht1_fst (N : NR) (s : Int32 × Int32) : (ht1 N s).1 = s.1 ||| nby N (s.2 ||| nby N s.1 N.n) N.n := rfl
theorem ht1_snd (N : NR) (s : Int32 × Int32) : (ht1 N s).2 = s.2 ||| nby N s.1 N.n := rfl
theorem bi_ht2 (G : GN N) (s : Int32 × Int32) (y : Int) : bi (ht1 N s).2 y = true ↔ bi s.2 y = true ∨ ∃ p, 0 ≤ p ∧ p < N.n ∧ bi s.1 p = true ∧ bi (N.bes p) y = true := by
  rw [ht1_snd, bi_or, Bool.or_eq_true, bi_nby N _ G.w.n0]
theorem bi_ht1 (G : GN N) (s : Int32 × Int32) (y : Int) : bi (ht1 N s).1 y = true ↔ bi s.1 y = true ∨ ∃ p, 0 ≤ p ∧ p < N.n ∧ bi (ht1 N s).2 p = true ∧ bi (N.bes p) y = true := by
  rw [ht1_fst, ← ht1_snd, bi_or, Bool.or_eq_true, bi_nby N _ G.w.n0]
/-- closed under lines -/
def htc (N : NR) (s : Int32 × Int32) : Prop := (∀ p y, 0 ≤ p → p < N.n → bi s.1 p = true → bi (N.bes p) y = true → bi s.2 y = true) ∧ (∀ p y, 0 ≤ p → p < N.n → bi s.2 p = true → bi (N.bes p) y = true → bi s.1 y = true)
theorem htc_fix (G : GN N) {s : Int32 × Int32} (h : htc N s) : ht1 N s = s := by
  have e2 : (ht1 N s).2 = s.2 := by
    apply bi_ext
    intro y h0 h1
    cases e : bi s.2 y with
    | true => exact (bi_ht2 G s y).mpr (Or.inl e)
    | false =>
      cases e1 : bi (ht1 N s).2 y with
      | false => rfl
      | true =>
        rcases (bi_ht2 G s y).mp e1 with h2 | ⟨p, h2, h3, h4, h5⟩
        · rw [h2] at e
          cases e
        · rw [h.1 p y h2 h3 h4 h5] at e
          cases e
  have e1 : (ht1 N s).1 = s.1 := by
    apply bi_ext
    intro y h0 h1
    cases e : bi s.1 y with
    | true => exact (bi_ht1 G s y).mpr (Or.inl e)
    | false =>
      cases e1 : bi (ht1 N s).1 y with
      | false => rfl
      | true =>
        rcases (bi_ht1 G s y).mp e1 with h2 | ⟨p, h2, h3, h4, h5⟩
        · rw [h2] at e
          cases e
        · rw [e2] at h4
          rw [h.2 p y h2 h3 h4 h5] at e
          cases e
  exact Prod.ext e1 e2
/-- if the first set stays, it is closed from there on -/
theorem htc_of (G : GN N) {s : Int32 × Int32} (h : (ht1 N s).1 = s.1) : htc N (ht1 N s) := by
  constructor
  · intro p y h0 h1 h2 h3
    rw [h] at h2
    exact (bi_ht2 G s y).mpr (Or.inr ⟨p, h0, h1, h2, h3⟩)
  · intro p y h0 h1 h2 h3
    exact (bi_ht1 G s y).mpr (Or.inr ⟨p, h0, h1, h2, h3⟩)
theorem ht1_rg (G : GN N) {s : Int32 × Int32} (h : rgN N s.1) : rgN N (ht1 N s).1 := by
  have n7 := G.w.n7
  intro x h0 h1 h2
  rcases (bi_ht1 G s x).mp h2 with h3 | ⟨p, h3, h4, -, h5⟩
  · exact h x h0 h1 h3
  · exact (G.rng h3 (by omega) h0 h1 h5).2.1
theorem htk_rg (G : GN N) {s : Int32 × Int32} (h : rgN N s.1) {i : Int} (hi : 0 ≤ i) : rgN N (htk N s i).1 := by
  refine z_ind (P := fun i => rgN N (htk N s i).1) h (fun i h0 ih => ?_) hi
  rw [htk_s N s h0]
  exact ht1_rg G ih
theorem htk_fix (G : GN N) {s : Int32 × Int32} (h : rgN N s.1) {x : Int} (hx0 : 0 ≤ x) (hx : x < 32) (hu : bi s.1 x = true) : htc N (htk N s N.n) := by
  have n0 := G.w.n0
  have key : htc N (htk N s N.n) ∨ N.n + 1 ≤ Jvm.Pilot.CFairLabelsLaw_law_r8514_2f2354.card (htk N s N.n).1 := by
    refine z_ind (P := fun i => htc N (htk N s i) ∨ i + 1 ≤ Jvm.Pilot.CFairLabelsLaw_law_r8514_2f2354.card (htk N s i).1) ?_ (fun i h0 ih => ?_) n0
    · right
      have h1 := h x hx0 hx hu
      have h2 := G.w.n7
      have h3 : 1 ≤ Jvm.Pilot.CFairLabelsLaw_law_r8514_2f2354.card s.1 := zcnt_pos hx0 (by omega) hu
      show 0 + 1 ≤ Jvm.Pilot.CFairLabelsLaw_law_r8514_2f2354.card s.1
      omega
    · rw [htk_s N s h0]
      by_cases e : (ht1 N (htk N s i)).1 = (htk N s i).1
      · left
        exact htc_of G e
      · rcases ih with ih | ih
        · left
          rw [htc_fix G ih]
          exact ih
        · right
          have := card_new G (ht1_rg G (htk_rg G h h0)) (fun y hy => (bi_ht1 G _ y).mpr (Or.inl hy)) e
          omega
  rcases key with key | key
  · exact key
  · have := card_rg G (htk_rg G h n0)
    omega
theorem htk_up1 (G : GN N) {s : Int32 × Int32} {x i : Int} (hi : 0 ≤ i) (h : bi s.1 x = true) : bi (htk N s i).1 x = true := by
  refine z_ind (P := fun i => bi (htk N s i).1 x = true) h (fun i h0 ih => ?_) hi
  rw [htk_s N s h0]
  exact (bi_ht1 G _ x).mpr (Or.inl ih)
theorem htk_up2 (G : GN N) {s : Int32 × Int32} {x i : Int} (hi : 0 ≤ i) (h : bi s.2 x = true) : bi (htk N s i).2 x = true := by
  refine z_ind (P := fun i => bi (htk N s i).2 x = true) h (fun i h0 ih => ?_) hi
  rw [htk_s N s h0]
  exact (bi_ht2 G _ x).mpr (Or.inl ih)
theorem htk_least (G : GN N) {s : Int32 × Int32} (S T : Int → Prop) (hS : ∀ p y, 0 ≤ p → p < N.n → S p → 0 ≤ y → y < 32 → bi (N.bes p) y = true → T y) (hT : ∀ p y, 0 ≤ p → p < N.n → T p → 0 ≤ y → y < 32 → bi (N.bes p) y = true → S y) (h1 : ∀ x, 0 ≤ x → x < 32 → bi s.1 x = true → S x) (h2 : ∀ x, 0 ≤ x → x < 32 → bi s.2 x = true → T x) {i : Int} (hi : 0 ≤ i) : (∀ x, 0 ≤ x → x < 32 → bi (htk N s i).1 x = true → S x) ∧ (∀ x, 0 ≤ x → x < 32 → bi (htk N s i).2 x = true → T x) := by
  have n7 := G.w.n7
  refine z_ind (P := fun i => (∀ x, 0 ≤ x → x < 32 → bi (htk N s i).1 x = true → S x) ∧ (∀ x, 0 ≤ x → x < 32 → bi (htk N s i).2 x = true → T x)) ⟨h1, h2⟩ (fun i h0 ih => ?_) hi
  obtain ⟨ih1, ih2⟩ := ih
  rw [htk_s N s h0]
  have k2 : ∀ x, 0 ≤ x → x < 32 → bi (ht1 N (htk N s i)).2 x = true → T x := by
    intro x h3 h4 h5
    rcases (bi_ht2 G _ x).mp h5 with h6 | ⟨p, h6, h7, h8, h9⟩
    · exact ih2 x h3 h4 h6
    · exact hS p x h6 h7 (ih1 p h6 (by omega) h8) h3 h4 h9
  refine ⟨fun x h3 h4 h5 => ?_, k2⟩
  rcases (bi_ht1 G _ x).mp h5 with h6 | ⟨p, h6, h7, h8, h9⟩
  · exact ih1 x h3 h4 h6
  · exact hT p x h6 h7 (k2 p h6 (by omega) h8) h3 h4 h9
theorem nsides_inv (G : GN N) {i : Int} (hi : 0 ≤ i) (hin : i ≤ N.n) : htc N (nsides N i) ∧ rgN N (nsides N i).1 ∧ rgN N (nsides N i).2 ∧ (∀ x, 0 ≤ x → x < i → bi (nsides N i).1 x = true ∨ bi (nsides N i).2 x = true) ∧ ((∃ f, clr N f) → ∀ x, 0 ≤ x → x < 32 → ¬ (bi (nsides N i).1 x = true ∧ bi (nsides N i).2 x = true)) := by
  have n7 := G.w.n7
  have n0 := G.w.n0
  revert hin
  refine z_ind (P := fun i => i ≤ N.n → htc N (nsides N i) ∧ rgN N (nsides N i).1 ∧ rgN N (nsides N i).2 ∧ (∀ x, 0 ≤ x → x < i → bi (nsides N i).1 x = true ∨ bi (nsides N i).2 x = true) ∧ ((∃ f, clr N f) → ∀ x, 0 ≤ x → x < 32 → ¬ (bi (nsides N i).1 x = true ∧ bi (nsides N i).2 x = true))) ?_ (fun i h0 ih => ?_) hi
  · intro _
    have e : nsides N 0 = (qI 0, qI 0) := rfl
    rw [e]
    refine ⟨⟨fun p y _ _ h => ?_, fun p y _ _ h => ?_⟩, fun x _ _ h => ?_, fun x _ _ h => ?_, fun x _ _ => by omega, fun _ x _ _ h => ?_⟩
    · rw [bi_q0] at h
      cases h
    · rw [bi_q0] at h
      cases h
    · rw [bi_q0] at h
      cases h
    · rw [bi_q0] at h
      cases h
    · rw [bi_q0] at h
      cases h.1
  · intro hin
    obtain ⟨ih1, ih2, ih3, ih4, ih5⟩ := ih (by omega)
    rw [nsides_s N h0]
    unfold nsides1
    by_cases hb : bi ((nsides N i).1 ||| (nsides N i).2) i = true
    · rw [if_pos hb]
      refine ⟨ih1, ih2, ih3, fun x hx0 hx => ?_, ih5⟩
      by_cases e : x = i
      · subst e
        rwa [bi_or, Bool.or_eq_true] at hb
      · exact ih4 x hx0 (by omega)
    · rw [if_neg hb]
      rw [bi_or, Bool.or_eq_true] at hb
      generalize hs : nsides N i = s at *
      have hmem : ∀ y, 0 ≤ y → y < 32 → (bi (s.1 ||| sb i) y = true ↔ bi s.1 y = true ∨ y = i) := by
        intro y h1 h2
        rw [bi_or, Bool.or_eq_true, bi_sb h0 (by omega) h1 h2, decide_eq_true_eq]
      have hrg : rgN N (s.1 ||| sb i) := by
        intro y h1 h2 h3
        rcases (hmem y h1 h2).mp h3 with h4 | h4
        · exact ih2 y h1 h2 h4
        · omega
      have hself : bi (s.1 ||| sb i) i = true := (hmem i h0 (by omega)).mpr (Or.inr rfl)
      have hc : htc N (htk N (s.1 ||| sb i, s.2) N.n) := htk_fix G (s := (s.1 ||| sb i, s.2)) hrg h0 (by omega) hself
      refine ⟨hc, htk_rg G (s := (s.1 ||| sb i, s.2)) hrg n0, ?_, fun x hx0 hx => ?_, ?_⟩
      · exact (htk_least G (s := (s.1 ||| sb i, s.2)) (fun x => x < N.n) (fun x => x < N.n) (fun p y h1 h2 _ h3 h4 h5 => (G.rng h1 (by omega) h3 h4 h5).2.1) (fun p y h1 h2 _ h3 h4 h5 => (G.rng h1 (by omega) h3 h4 h5).2.1) hrg ih3 n0).2
      · by_cases e : x = i
        · subst e
          exact Or.inl (htk_up1 G n0 hself)
        · rcases ih4 x hx0 (by omega) with h1 | h1
          · exact Or.inl (htk_up1 G n0 ((hmem x hx0 (by omega)).mpr (Or.inl h1)))
          · exact Or.inr (htk_up2 G n0 h1)
      · rintro ⟨f, hf⟩ x hx0 hx ⟨h1, h2⟩
        have hV : ∀ p y, 0 ≤ p → p < N.n → ¬ (bi s.1 p = true ∨ bi s.2 p = true) → 0 ≤ y → y < 32 → bi (N.bes p) y = true → ¬ (bi s.1 y = true ∨ bi s.2 y = true) := by
          intro p y g1 g2 g3 g4 g5 g6 g7
          have g8 := G.rng g1 (by omega) g4 g5 g6
          have g9 : bi (N.bes y) p = true := by rw [← G.sym g1 (by omega) g4 (by omega)]; exact g6
          rcases g7 with g7 | g7
          · exact g3 (Or.inr (ih1.1 y p g4 g8.2.1 g7 g9))
          · exact g3 (Or.inl (ih1.2 y p g4 g8.2.1 g7 g9))
        obtain ⟨k1, k2⟩ := htk_least G (s := (s.1 ||| sb i, s.2)) (fun x => bi s.1 x = true ∨ (¬ (bi s.1 x = true ∨ bi s.2 x = true) ∧ f x = f i)) (fun x => bi s.2 x = true ∨ (¬ (bi s.1 x = true ∨ bi s.2 x = true) ∧ f x ≠ f i)) (by
            intro p y g1 g2 g3 g4 g5 g6
            rcases g3 with g3 | ⟨g3, g7⟩
            · exact Or.inl (ih1.1 p y g1 g2 g3 g6)
            · refine Or.inr ⟨hV p y g1 g2 g3 g4 g5 g6, fun q => hf p y g1 g2 g4 g5 g6 (by rw [g7, q])⟩) (by
            intro p y g1 g2 g3 g4 g5 g6
            rcases g3 with g3 | ⟨g3, g7⟩
            · exact Or.inl (ih1.2 p y g1 g2 g3 g6)
            · refine Or.inr ⟨hV p y g1 g2 g3 g4 g5 g6, ?_⟩
              have g8 := hf p y g1 g2 g4 g5 g6
              cases e1 : f p <;> cases e2 : f y <;> cases e3 : f i <;> simp_all) (by
            intro y g1 g2 g3
            rcases (hmem y g1 g2).mp g3 with g4 | g4
            · exact Or.inl g4
            · subst g4
              exact Or.inr ⟨hb, rfl⟩) (fun y _ _ g3 => Or.inl g3) n0
        rcases k1 x hx0 hx h1 with a1 | ⟨a1, a2⟩
        · rcases k2 x hx0 hx h2 with b1 | ⟨b1, b2⟩
          · exact ih5 ⟨f, hf⟩ x hx0 hx ⟨a1, b1⟩
          · exact b1 (Or.inl a1)
        · rcases k2 x hx0 hx h2 with b1 | ⟨b1, b2⟩
          · exact a1 (Or.inr b1)
          · exact b2 a2
theorem isTw_iff (G : GN N) : isTw N = true ↔ ∃ f, clr N f := by
  have n7 := G.w.n7
  obtain ⟨h1, h2, h3, h4, h5⟩ := nsides_inv G G.w.n0 (Int.le_refl _)
  unfold isTw
  rw [decide_eq_true_eq]
  constructor
  · intro h
    refine ⟨fun x => bi (nsides N N.n).1 x, fun p y g1 g2 g3 g4 g5 g6 => ?_⟩
    have hno : ∀ x, ¬ (bi (nsides N N.n).1 x = true ∧ bi (nsides N N.n).2 x = true) := by
      intro x hx
      have := bi_and (nsides N N.n).1 (nsides N N.n).2 x
      rw [h, bi_q0, hx.1, hx.2] at this
      cases this
    have g7 := G.rng g1 (by omega) g3 g4 g5
    change bi (nsides N N.n).1 p = bi (nsides N N.n).1 y at g6
    rcases h4 p g1 g2 with a1 | a1
    · exact hno y ⟨by rw [← g6]; exact a1, h1.1 p y g1 g2 a1 g5⟩
    · have a2 := h1.2 p y g1 g2 a1 g5
      exact hno p ⟨by rw [g6]; exact a2, a1⟩
  · intro h
    apply bi_ext
    intro x h0 hx
    rw [bi_q0, bi_and]
    cases e1 : bi (nsides N N.n).1 x <;> cases e2 : bi (nsides N N.n).2 x
    · rfl
    · rfl
    · rfl
    · exact absurd ⟨e1, e2⟩ (h5 h x h0 hx)
end
