/-! NUMBERS for simp, with bounds by omega -/
theorem qI_ltT {a b : Int} (h1 : -2147483648 ≤ a) (h2 : a < 2147483648) (h3 : -2147483648 ≤ b) (h4 : b < 2147483648) : (qI a < qI b) = (a < b) := propext (qI_lt h1 h2 h3 h4)
theorem qI_eqT {a b : Int} (h1 : -2147483648 ≤ a) (h2 : a < 2147483648) (h3 : -2147483648 ≤ b) (h4 : b < 2147483648) : (qI a = qI b) = (a = b) := propext (qI_eq h1 h2 h3 h4)
theorem qB0 (b : Bool) : (qB b = qI 0) = (b = false) := by cases b <;> decide
theorem qB1 (b : Bool) : (qB b = qI 1) = (b = true) := by cases b <;> decide
theorem zb_or (b : Bool) : (b = false ∨ b = true) = True := by cases b <;> decide
theorem zb_or2 (b : Bool) : (b = true ∨ b = false) = True := by cases b <;> decide
theorem qB_t1 : qI 1 = qB true := rfl
theorem qB_f0 : qI 0 = qB false := rfl
theorem zB_ite {p : Prop} {hd : Decidable p} {hp : ab_H} : (if p then (some (some (Value.int (qI 1)), hp) : Option ab_O) else some (some (.int (qI 0)), hp)) = some (some (.int (qB (decide p))), hp) := by
  by_cases h : p <;> simp [h, qB] <;> rfl
theorem zB_ite2 {p : Prop} {hd : Decidable p} {hp : ab_H} : (if p then (some (some (Value.int (qI 0)), hp) : Option ab_O) else some (some (.int (qI 1)), hp)) = some (some (.int (qB (!decide p))), hp) := by
  by_cases h : p <;> simp [h, qB] <;> rfl
theorem qI_bd (x : Int32) : -2147483648 ≤ x.toInt ∧ x.toInt < 2147483648 := ⟨Int32.le_toInt x, Int32.toInt_lt x⟩
theorem zq_min {a b : Int} (h1 : -2147483648 ≤ a) (h2 : a < 2147483648) (h3 : -2147483648 ≤ b) (h4 : b < 2147483648) : ab_min (qI a) (qI b) = qI (min a b) := by
  unfold ab_min
  simp only [qI_ltT h1 h2 h3 h4, qI_ltT h3 h4 h1 h2, Int32.le_iff_toInt_le, qI_toInt h1 h2, qI_toInt h3 h4]
  split <;> (congr 1; omega)
theorem zq_max {a b : Int} (h1 : -2147483648 ≤ a) (h2 : a < 2147483648) (h3 : -2147483648 ≤ b) (h4 : b < 2147483648) : ab_max (qI a) (qI b) = qI (max a b) := by
  unfold ab_max
  simp only [qI_ltT h1 h2 h3 h4, qI_ltT h3 h4 h1 h2, Int32.le_iff_toInt_le, qI_toInt h1 h2, qI_toInt h3 h4]
  split <;> (congr 1; omega)
theorem zq_abs {a : Int} (h1 : -2147483647 ≤ a) (h2 : a < 2147483648) : ab_abs (qI a) = qI (max a (-a)) := by
  unfold ab_abs
  simp only [ql_0, qI_sub, Int32.le_iff_toInt_le, qI_toInt (show -2147483648 ≤ a by omega) h2, qI_toInt (show (-2147483648 : Int) ≤ 0 by omega) (show (0 : Int) < 2147483648 by omega)]
  split <;> (congr 1; omega)
theorem zq_div {a b : Int} (h1 : 0 ≤ a) (h2 : a < 2147483648) (h3 : 0 < b) (h4 : b < 2147483648) : qI a / qI b = qI (a / b) := by
  have e : (qI a / qI b).toInt = (qI (a / b)).toInt := by
    have h5 : a / b ≤ a := Int.ediv_le_self b h1
    have h6 : 0 ≤ a / b := Int.ediv_nonneg h1 (by omega)
    rw [Int32.toInt_div_of_ne_right _ _ (by intro q; have := congrArg Int32.toInt q; rw [qI_toInt (by omega) h4, show (-1 : Int32).toInt = -1 from rfl] at this; omega), qI_toInt (by omega) h2, qI_toInt (by omega) h4, qI_toInt (by omega) (by omega), Int.tdiv_eq_ediv_of_nonneg h1]
  exact Int32.toInt_inj.mp e
theorem zq_rem {a b : Int} (h1 : 0 ≤ a) (h2 : a < 2147483648) (h3 : 0 < b) (h4 : b < 2147483648) : ab_rem (qI a) (qI b) = qI (a % b) := by
  unfold ab_rem
  rw [zq_div h1 h2 h3 h4, qI_mul, qI_sub]
  congr 1
  rw [Int.emod_def, Int.mul_comm]
theorem zq_rem2 {a b : Int} (h1 : 0 ≤ a) (h2 : a < 2147483648) (h3 : 0 < b) (h4 : b < 2147483648) : qI a - qI (a / b * b) = qI (a % b) := by
  rw [qI_sub]
  congr 1
  rw [Int.emod_def, Int.mul_comm]
theorem zi_long {a : Int} (h1 : -2147483648 ≤ a) (h2 : a < 2147483648) : (qI a).toInt64 = Int64.ofInt a := by
  apply Int64.toInt_inj.mp
  rw [Int32.toInt_toInt64, qI_toInt h1 h2, Int64.toInt_ofInt_of_le (by omega) (by omega)]
/-! SETS -/
def sb (k : Int) : Int32 := (1 : Int32) <<< (qI k &&& 31)
def bi (u : Int32) (k : Int) : Bool := bt u k.toNat
theorem sb_eq (k : Int) : qI 1 <<< (qI k &&& qI 31) = sb k := rfl
theorem zt_val {k : Int} (h0 : 0 ≤ k) (h1 : k < 32) (u : Int32) : (u >>> (qI k &&& qI 31)) &&& qI 1 = qB (bi u k) := by
  have e : qI k = nI k.toNat := by rw [← qI_nI, Int.toNat_of_nonneg h0]
  rw [e]
  exact bt_val (by omega) u
theorem bi_sb {k i : Int} (h0 : 0 ≤ k) (h1 : k < 32) (h2 : 0 ≤ i) (h3 : i < 32) : bi (sb k) i = decide (i = k) := by
  have e : qI k = nI k.toNat := by rw [← qI_nI, Int.toNat_of_nonneg h0]
  unfold bi sb
  rw [e, b_shl _ (by omega) _ (by omega), b_1 _ (by omega)]
  by_cases h : i = k
  · subst h
    simp
  · have : ¬ (k.toNat ≤ i.toNat ∧ i.toNat - k.toNat = 0) := by omega
    simp only [h, decide_false]
    by_cases h5 : k.toNat ≤ i.toNat
    · have : ¬ i.toNat - k.toNat = 0 := by omega
      simp [this]
    · simp [h5]
theorem bi_or (u v : Int32) (i : Int) : bi (u ||| v) i = (bi u i || bi v i) := b_or u v i.toNat
theorem bi_and (u v : Int32) (i : Int) : bi (u &&& v) i = (bi u i && bi v i) := b_and u v i.toNat
theorem bi_xor (u v : Int32) (i : Int) : bi (u ^^^ v) i = (bi u i ^^ bi v i) := b_xor u v i.toNat
theorem bi_0 (i : Int) : bi 0 i = false := b_0 i.toNat
theorem bi_q0 (i : Int) : bi (qI 0) i = false := b_0 i.toNat
theorem bi_ext {u v : Int32} (h : ∀ i : Int, 0 ≤ i → i < 32 → bi u i = bi v i) : u = v := b_ext (fun i hi => by
  have := h (i : Int) (by omega) (by omega)
  unfold bi at this
  rwa [Int.toNat_natCast] at this)
/-! LOOPS -/
def zg {S : Type} (F : Int → S → S) (s : S) : Nat → S
  | 0 => s
  | k + 1 => F (k : Int) (zg F s k)
def zfold {S : Type} (F : Int → S → S) (s : S) (i : Int) : S := zg F s i.toNat
theorem zfold_0 {S : Type} (F : Int → S → S) (s : S) : zfold F s 0 = s := rfl
theorem zfold_s {S : Type} (F : Int → S → S) (s : S) {i : Int} (h : 0 ≤ i) : zfold F s (i + 1) = F i (zfold F s i) := by
  have e : (i + 1).toNat = i.toNat + 1 := by omega
  have e2 : ((i.toNat : Nat) : Int) = i := Int.toNat_of_nonneg h
  unfold zfold
  rw [e]
  show F ((i.toNat : Nat) : Int) _ = _
  rw [e2]
theorem z_run {R : Type} (X : Int → R) {a n : Int} (hn : a ≤ n) (hstep : ∀ i, a ≤ i → i < n → X i = X (i + 1)) : X a = X n := by
  obtain ⟨k, hk⟩ : ∃ k : Nat, n = a + k := ⟨(n - a).toNat, by omega⟩
  subst hk
  induction k with
  | zero => simp
  | succ k ih =>
    have e : a + ((k + 1 : Nat) : Int) = a + k + 1 := by omega
    rw [e, ← hstep (a + k) (by omega) (by omega)]
    exact ih (by omega) (fun i h1 h2 => hstep i h1 (by omega))
/-- the first that is so -/
def zfind (p : Int → Bool) (a : Int) : Nat → Option Int
  | 0 => none
  | k + 1 => if p a = true then some a else zfind p (a + 1) k
theorem z_runF {R : Type} (p : Int → Bool) (X E : Int → R) (N : R) {n : Int} : ∀ {a : Int}, (hn : a ≤ n) → (∀ i, a ≤ i → i < n → X i = if p i = true then E i else X (i + 1)) → (X n = N) → X a = match zfind p a (n - a).toNat with
    | some z => E z
    | none => N := by
  intro a hn
  obtain ⟨k, hk⟩ : ∃ k : Nat, n = a + k := ⟨(n - a).toNat, by omega⟩
  induction k generalizing a with
  | zero =>
    intro _ h2
    have e : a = n := by omega
    subst e
    simp [zfind, h2]
  | succ k ih =>
    intro h1 h2
    have e : (n - a).toNat = (n - (a + 1)).toNat + 1 := by omega
    rw [e, h1 a (by omega) (by omega)]
    unfold zfind
    by_cases hp : p a = true
    · rw [if_pos hp, if_pos hp]
    · rw [if_neg hp, if_neg hp]
      exact ih (by omega) (by omega) (fun i h3 h4 => h1 i (by omega) h4) h2
def zsum (f : Int → Int) (i : Int) : Int := zfold (fun k a => a + f k) 0 i
theorem zsum_0 (f : Int → Int) : zsum f 0 = 0 := rfl
theorem zsum_s (f : Int → Int) {i : Int} (h : 0 ≤ i) : zsum f (i + 1) = zsum f i + f i := zfold_s _ _ h
def zcnt (p : Int → Bool) (i : Int) : Int := zfold (fun k a => if p k = true then a + 1 else a) 0 i
theorem zcnt_0 (p : Int → Bool) : zcnt p 0 = 0 := rfl
theorem zcnt_s (p : Int → Bool) {i : Int} (h : 0 ≤ i) : zcnt p (i + 1) = if p i = true then zcnt p i + 1 else zcnt p i := zfold_s _ _ h
def zset (p : Int → Bool) (i : Int) : Int32 := zfold (fun k u => if p k = true then u ||| sb k else u) 0 i
theorem zset_0 (p : Int → Bool) : zset p 0 = qI 0 := rfl
theorem zset_s (p : Int → Bool) {i : Int} (h : 0 ≤ i) : zset p (i + 1) = if p i = true then zset p i ||| sb i else zset p i := zfold_s _ _ h
theorem z_ind {P : Int → Prop} (h0 : P 0) (hs : ∀ i, 0 ≤ i → P i → P (i + 1)) {i : Int} (h : 0 ≤ i) : P i := by
  obtain ⟨k, rfl⟩ : ∃ k : Nat, i = k := ⟨i.toNat, by omega⟩
  induction k with
  | zero => exact h0
  | succ k ih => exact hs k (by omega) (ih (by omega))
theorem zcnt_bd (p : Int → Bool) {i : Int} (h : 0 ≤ i) : 0 ≤ zcnt p i ∧ zcnt p i ≤ i := by
  refine z_ind (P := fun i => 0 ≤ zcnt p i ∧ zcnt p i ≤ i) (by rw [zcnt_0]; omega) (fun i hi ih => ?_) h
  rw [zcnt_s p hi]
  split <;> omega
theorem zsum_bd {f : Int → Int} {n a b : Int} (hf : ∀ k, 0 ≤ k → k < n → a ≤ f k ∧ f k ≤ b) {i : Int} (h : 0 ≤ i) (hn : i ≤ n) : a * i ≤ zsum f i ∧ zsum f i ≤ b * i := by
  revert hn
  refine z_ind (P := fun i => i ≤ n → a * i ≤ zsum f i ∧ zsum f i ≤ b * i) (by intro _; rw [zsum_0]; omega) (fun i hi ih => ?_) h
  intro hn
  have h1 := hf i hi (by omega)
  have h2 := ih (by omega)
  rw [zsum_s f hi, Int.mul_add, Int.mul_add]
  omega
theorem bi_zset {p : Int → Bool} {n : Int} (h : 0 ≤ n) (hn : n ≤ 32) {k : Int} (h0 : 0 ≤ k) (h1 : k < 32) : bi (zset p n) k = (decide (k < n) && p k) := by
  revert hn
  refine z_ind (P := fun n => n ≤ 32 → bi (zset p n) k = (decide (k < n) && p k)) (by
    intro _
    rw [zset_0, bi_q0]
    have : ¬ k < 0 := by omega
    simp [this]) (fun i hi ih => ?_) h
  intro hn
  have := ih (by omega)
  rw [zset_s p hi]
  by_cases hp : p i = true
  · rw [if_pos hp, bi_or, this, bi_sb hi (by omega) h0 h1]
    by_cases e : k = i
    · subst e
      have : k < k + 1 := by omega
      simp [hp, this]
    · have e2 : (k < i + 1) ↔ k < i := by omega
      simp [e, e2]
  · rw [if_neg hp, this]
    by_cases e : k = i
    · subst e
      simp [hp]
    · have e2 : (k < i + 1) ↔ k < i := by omega
      simp [e2]
theorem zi_in {rom : List (List Int32)} {hp : ab_H} {d : Nat} {a b c : Int} (h1 : -2147483648 ≤ a) (h2 : a < 2147483648) (h3 : -2147483648 ≤ b) (h4 : b < 2147483648) (h5 : -2147483648 ≤ c) (h6 : c < 2147483648) : ab_M rom (d + 1) 159 [.long (Int64.ofInt a), .long (Int64.ofInt b), .long (Int64.ofInt c)] hp = some (some (.int (qB (decide (b ≤ a ∧ a ≤ c)))), hp) := by
  rw [r_in, Int64.toInt_ofInt_of_le (by omega) (by omega), Int64.toInt_ofInt_of_le (by omega) (by omega), Int64.toInt_ofInt_of_le (by omega) (by omega)]
/-- loops with something left over in a local -/
theorem z_runE {R W : Type} (X : Int → W → R) {a n : Int} (hn : a ≤ n) (hstep : ∀ i w, a ≤ i → i < n → ∃ w', X i w = X (i + 1) w') (w : W) : ∃ w', X a w = X n w' := by
  obtain ⟨k, hk⟩ : ∃ k : Nat, n = a + k := ⟨(n - a).toNat, by omega⟩
  subst hk
  induction k with
  | zero => exact ⟨w, by simp⟩
  | succ k ih =>
    obtain ⟨w1, h1⟩ := ih (by omega) (fun i w h1 h2 => hstep i w h1 (by omega))
    obtain ⟨w2, h2⟩ := hstep (a + k) w1 (by omega) (by omega)
    refine ⟨w2, h1.trans (h2.trans ?_)⟩
    have e : a + ((k + 1 : Nat) : Int) = a + k + 1 := by omega
    rw [e]
def jv (w : Option Int) : Value := match w with
  | none => .null
  | some x => .int (qI x)
theorem zfind_some {p : Int → Bool} {z : Int} : ∀ {k : Nat} {a : Int}, zfind p a k = some z → a ≤ z ∧ z < a + k ∧ p z = true ∧ ∀ i, a ≤ i → i < z → p i = false
  | 0, a, h => by cases h
  | k + 1, a, h => by
    unfold zfind at h
    by_cases hp : p a = true
    · rw [if_pos hp] at h
      cases h
      exact ⟨by omega, by omega, hp, fun i h1 h2 => by omega⟩
    · rw [if_neg hp] at h
      obtain ⟨h1, h2, h3, h4⟩ := zfind_some h
      refine ⟨by omega, by omega, h3, fun i h5 h6 => ?_⟩
      by_cases e : i = a
      · subst e
        exact Bool.eq_false_iff.mpr hp
      · exact h4 i (by omega) h6
theorem zfind_none {p : Int → Bool} : ∀ {k : Nat} {a : Int}, zfind p a k = none → ∀ i, a ≤ i → i < a + k → p i = false
  | 0, a, h => fun i h1 h2 => by omega
  | k + 1, a, h => fun i h1 h2 => by
    unfold zfind at h
    by_cases hp : p a = true
    · rw [if_pos hp] at h
      cases h
    · rw [if_neg hp] at h
      by_cases e : i = a
      · subst e
        exact Bool.eq_false_iff.mpr hp
      · exact zfind_none h i (by omega) (by omega)
theorem zfind_of {p : Int → Bool} {z a : Int} {k : Nat} (h1 : a ≤ z) (h2 : z < a + k) (h3 : p z = true) (h4 : ∀ i, a ≤ i → i < z → p i = false) : zfind p a k = some z := by
  cases h : zfind p a k with
  | none => 
    have := zfind_none h z h1 h2
    rw [h3] at this
    cases this
  | some y =>
    obtain ⟨g1, g2, g3, g4⟩ := zfind_some h
    congr 1
    by_cases e : y < z
    · have := h4 y g1 e
      rw [g3] at this
      cases this
    · by_cases e2 : z < y
      · have := g4 z h1 e2
        rw [h3] at this
        cases this
      · omega
theorem zfind_no {p : Int → Bool} {a : Int} {k : Nat} (h4 : ∀ i, a ≤ i → i < a + k → p i = false) : zfind p a k = none := by
  cases h : zfind p a k with
  | none => rfl
  | some y =>
    obtain ⟨g1, g2, g3, g4⟩ := zfind_some h
    rw [h4 y g1 g2] at g3
    cases g3
theorem zfold_congr {S : Type} {F G : Int → S → S} {s : S} {n : Int} (h : ∀ i, 0 ≤ i → i < n → ∀ x, F i x = G i x) {i : Int} (h0 : 0 ≤ i) (hn : i ≤ n) : zfold F s i = zfold G s i := by
  revert hn
  refine z_ind (P := fun i => i ≤ n → zfold F s i = zfold G s i) (fun _ => rfl) (fun i hi ih hin => ?_) h0
  rw [zfold_s _ _ hi, zfold_s _ _ hi, ih (by omega), h i hi (by omega)]
theorem zl_0 : (0 : Int64) = Int64.ofInt 0 := rfl
theorem zl_1 : (1 : Int64) = Int64.ofInt 1 := rfl
theorem zl_2 : (2 : Int64) = Int64.ofInt 2 := rfl
theorem zl_4 : (4 : Int64) = Int64.ofInt 4 := rfl
theorem zl_7 : (7 : Int64) = Int64.ofInt 7 := rfl
theorem zl_99 : (99 : Int64) = Int64.ofInt 99 := rfl
theorem zl_30 : (30 : Int64) = Int64.ofInt 30 := rfl
theorem zl_5 : (5 : Int64) = Int64.ofInt 5 := rfl
theorem zl_3 : (3 : Int64) = Int64.ofInt 3 := rfl
theorem zl_6 : (6 : Int64) = Int64.ofInt 6 := rfl
theorem zl_neg (a : Int) : - Int64.ofInt a = Int64.ofInt (-a) := (Int64.ofInt_neg a).symm
