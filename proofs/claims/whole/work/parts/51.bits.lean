/-! BITS (the family of kit/laws/BITS.to-paste, as given for pasting) -/
def bt (x : Int32) (i : Nat) : Bool := x.toBitVec.getLsbD i
theorem b_ext {x y : Int32} (h : ∀ i, i < 32 → bt x i = bt y i) : x = y := Int32.toBitVec_inj.mp (BitVec.eq_of_getLsbD_eq (fun i hi => h i hi))
theorem b_or (x y : Int32) (i : Nat) : bt (x ||| y) i = (bt x i || bt y i) := by unfold bt; rw [Int32.toBitVec_or, BitVec.getLsbD_or]
theorem b_and (x y : Int32) (i : Nat) : bt (x &&& y) i = (bt x i && bt y i) := by unfold bt; rw [Int32.toBitVec_and, BitVec.getLsbD_and]
theorem b_xor (x y : Int32) (i : Nat) : bt (x ^^^ y) i = (bt x i ^^ bt y i) := by unfold bt; rw [Int32.toBitVec_xor, BitVec.getLsbD_xor]
theorem b_big {x : Int32} {i : Nat} (h : 32 ≤ i) : bt x i = false := BitVec.getLsbD_of_ge _ _ h
theorem b_0 (i : Nat) : bt 0 i = false := BitVec.getLsbD_zero
theorem s_l : ∀ n, n < 32 → ((nI n &&& 31).toBitVec.smod 32).toNat = n := by decide +kernel
theorem s_u : ∀ n, n < 32 → (((nI n).toUInt32 &&& Int32.toUInt32 31).toBitVec % 32).toNat = n := by decide +kernel
theorem b_shl (n : Nat) (hn : n < 32) (x : Int32) {i : Nat} (hi : i < 32) : bt (x <<< (nI n &&& 31)) i = (decide (n ≤ i) && bt x (i - n)) := by
  unfold bt
  rw [Int32.toBitVec_shiftLeft]
  show (x.toBitVec <<< ((nI n &&& 31).toBitVec.smod 32).toNat).getLsbD i = _
  rw [s_l n hn, BitVec.getLsbD_shiftLeft]
  rcases Nat.lt_or_ge i n with h | h
  · simp [h, Nat.not_le.mpr h]
  · simp [hi, h, Nat.not_lt.mpr h]
theorem b_ushr (n : Nat) (hn : n < 32) (x : Int32) (i : Nat) : bt ((x.toUInt32 >>> ((nI n).toUInt32 &&& Int32.toUInt32 31)).toInt32) i = bt x (n + i) := by
  show (x.toUInt32 >>> ((nI n).toUInt32 &&& Int32.toUInt32 31)).toBitVec.getLsbD i = x.toUInt32.toBitVec.getLsbD (n + i)
  rw [UInt32.toBitVec_shiftRight]
  show (x.toUInt32.toBitVec >>> (((nI n).toUInt32 &&& Int32.toUInt32 31).toBitVec % 32).toNat).getLsbD i = _
  rw [s_u n hn, BitVec.getLsbD_ushiftRight]
theorem b_sshr (n : Nat) (hn : n < 32) (x : Int32) {i : Nat} (hi : i < 32) : bt (x >>> (nI n &&& 31)) i = if n + i < 32 then bt x (n + i) else bt x 31 := by
  unfold bt
  rw [Int32.toBitVec_shiftRight]
  show (x.toBitVec.sshiftRight ((nI n &&& 31).toBitVec.smod 32).toNat).getLsbD i = _
  rw [s_l n hn, BitVec.getLsbD_sshiftRight, BitVec.msb_eq_getLsbD_last]
  simp [hi]
/-! SETS AS BITS -/
theorem qI_nI (n : Nat) : qI (n : Int) = nI n := Int32.ofInt_eq_ofNat
theorem b_1 : ∀ i, i < 32 → bt 1 i = decide (i = 0) := by decide +kernel
theorem bt_val {k : Nat} (hk : k < 32) (s : Int32) : (s >>> (nI k &&& 31)) &&& 1 = qB (bt s k) := by
  apply b_ext
  intro i hi
  rw [b_and, b_1 i hi, b_sshr k hk s hi]
  by_cases h : i = 0
  · subst h
    rw [if_pos (by omega)]
    cases h2 : bt s k <;> simp [qB, b_0, b_1 0 (by omega), h2]
  · cases h2 : bt s k
    · simp [h, qB, b_0]
    · simp [h, qB, b_1 i hi]
theorem qB_one (p : Bool) : (qB p = 1) ↔ p = true := by cases p <;> decide
theorem qB_zero (p : Bool) : (qB p = 0) ↔ p = false := by cases p <;> decide
/-- how many of the first n bits -/
def bc (s : Int32) : Nat → Nat
  | 0 => 0
  | n + 1 => bc s n + (if bt s n = true then 1 else 0)
theorem bc_le (s : Int32) : ∀ n, bc s n ≤ n
  | 0 => Nat.le_refl _
  | n + 1 => by
    have := bc_le s n
    unfold bc
    split <;> omega
theorem bc_step (s : Int32) (n : Nat) : nI (bc s n) + qB (bt s n) = nI (bc s (n + 1)) := by
  cases h : bt s n
  · simp [bc, h, qB]
  · simp only [bc, h, qB, if_true]
    exact nI_1 _
section
variable {rom : List (List Int32)} {hp : ab_H} {d : Nat}
theorem r_hasb {k : Nat} (hk : k < 32) (s : Int32) : ab_M rom (d + 1) 156 [.int s, .int (nI k)] hp = some (some (.int (qB (bt s k))), hp) := by
  rw [r_has, bt_val hk]
  cases bt s k <;> rfl
theorem r_ones (s : Int32) : ab_M rom (d + 1) 204 [.int s] hp = some (some (.int (nI (bc s 31))), hp) := by
  rw [mX9_ones]
  simp only [sX9_ones_0, sX9_ones_1i, sX9_ones_1r, sX9_ones_1n, sX9_ones_2, sX9_ones_3i, sX9_ones_3r, sX9_ones_3n, sX9_ones_5, sX9_ones_7, sX9_ones_10, sX9_ones_11, sX9_ones_12, sX9_ones_13, sX9_ones_14, sX9_ones_15, sX9_ones_16, sX9_ones_17i, sX9_ones_17r, sX9_ones_17n, sX9_ones_18i, sX9_ones_18r, sX9_ones_18n, sX9_ones_21, sX9_ones_24, sX9_ones_25]
  have key := q_loop (fun i (acc : Int32) => acc = nI (bc s i)) (fun i acc => ab_X rom (ab_M rom d) cX9_ones 7 1 4 [.int s, .int acc, .int (nI i)] [] hp) (fun i _ => nI (bc s (i + 1))) 31 (fun i acc hi ha => by
    refine ⟨rfl, ?_⟩
    subst ha
    rw [sX9_ones_4]
    simp only [sX9_ones_0, sX9_ones_1i, sX9_ones_1r, sX9_ones_1n, sX9_ones_2, sX9_ones_3i, sX9_ones_3r, sX9_ones_3n, sX9_ones_5, sX9_ones_7, sX9_ones_10, sX9_ones_11, sX9_ones_12, sX9_ones_13, sX9_ones_14, sX9_ones_15, sX9_ones_16, sX9_ones_17i, sX9_ones_17r, sX9_ones_17n, sX9_ones_18i, sX9_ones_18r, sX9_ones_18n, sX9_ones_21, sX9_ones_24, sX9_ones_25]
    rw [if_pos (show nI i < 31 from nI_lt hi (by decide)), bt_val (by omega), nI_1, bc_step]) 31 0 0 rfl rfl
  refine key.2.trans ?_
  rw [key.1]
  simp only [sX9_ones_4, sX9_ones_5, sX9_ones_7, sX9_ones_24, sX9_ones_25]
  rw [if_neg (show ¬ nI 31 < 31 from by decide)]
theorem r_areJoined {row : List Int32} {s p : Int} {k : Nat} (h : RowAt hp row) (h0 : 0 ≤ s) (h1 : s ≤ 2) (h2 : 0 ≤ p) (h3 : p ≤ 6) (hk : k < 32) : ab_M rom (d + 2) 135 [.ref 92, .int (qI s), .int (qI p), .int (nI k)] hp = some (some (.int (qB (bt (row.getD (15 * s + 1 + p).toNat 0) k))), hp) := by
  rw [mX9_areJoined]
  simp only [sX9_areJoined_0, sX9_areJoined_1, sX9_areJoined_2, sX9_areJoined_3_0, sX9_areJoined_3_1, sX9_areJoined_3_2, sX9_areJoined_3_3, sX9_areJoined_6, sX9_areJoined_7_0, sX9_areJoined_7_1, sX9_areJoined_7_2, sX9_areJoined_7_3, sX9_areJoined_10, h.iso, if_true, r_joined h h0 h1 h2 h3, r_hasb hk, Option.bind_some, Option.toList_some, Option.toList_none, List.cons_append, List.nil_append, qB_ret]
end
