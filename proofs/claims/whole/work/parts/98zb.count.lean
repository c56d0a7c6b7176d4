/-! BITS COUNTED: 32 bits at once -/
theorem us_n {x k : Nat} (hx : x < 2 ^ 32) (hk : k < 32) : us (nI x) (nI k) = nI (x / 2 ^ k) := by
  apply Int32.toBitVec_inj.mp
  apply BitVec.eq_of_toNat_eq
  show (BitVec.ofNat 32 x >>> (((nI k).toUInt32 &&& Int32.toUInt32 31).toBitVec % 32).toNat).toNat = (BitVec.ofNat 32 (x / 2 ^ k)).toNat
  rw [s_u k hk, BitVec.toNat_ushiftRight, BitVec.toNat_ofNat, BitVec.toNat_ofNat, Nat.mod_eq_of_lt hx, Nat.shiftRight_eq_div_pow, Nat.mod_eq_of_lt (Nat.lt_of_le_of_lt (Nat.div_le_self _ _) hx)]
theorem nI_add2 (a b : Nat) : nI a + nI b = nI (a + b) := by
  rw [← qI_nI, ← qI_nI, ← qI_nI, qI_add, Int.natCast_add]
theorem nI_sub2 {a b : Nat} (h : b ≤ a) : nI a - nI b = nI (a - b) := by
  rw [← qI_nI, ← qI_nI, ← qI_nI, qI_sub, Int.ofNat_sub h]
theorem bcI_n {x : Nat} (hx : x < 16777216) : bcI (nI x) = nI (bE (bD (bC (bB (bA x)))) &&& 63) := by
  have l1 : (x / 2) &&& 1431655765 ≤ x / 2 := Nat.and_le_left
  have e1 : bc_a (nI x) = nI (bA x) := by
    show nI x - (us (nI x) (nI 1) &&& nI 1431655765) = nI (bA x)
    rw [us_n (by omega) (by omega), show (2 : Nat) ^ 1 = 2 from rfl, nI_and (by omega) (by omega), nI_sub2 (by omega)]
    rfl
  have b1 : bA x < 16777216 := by unfold bA; omega
  generalize bA x = y at e1 b1 ⊢
  have l2 : y &&& 858993459 ≤ y := Nat.and_le_left
  have l3 : (y / 4) &&& 858993459 ≤ y / 4 := Nat.and_le_left
  have e2 : bc_b (nI y) = nI (bB y) := by
    show (nI y &&& nI 858993459) + (us (nI y) (nI 2) &&& nI 858993459) = nI (bB y)
    rw [us_n (by omega) (by omega), show (2 : Nat) ^ 2 = 4 from rfl, nI_and (by omega) (by omega), nI_and (by omega) (by omega), nI_add2]
    rfl
  have b2 : bB y < 33554432 := by unfold bB; omega
  generalize bB y = z at e2 b2 ⊢
  have l4 : (z + z / 16) &&& 252645135 ≤ z + z / 16 := Nat.and_le_left
  have e3 : bc_c (nI z) = nI (bC z) := by
    show (nI z + us (nI z) (nI 4)) &&& nI 252645135 = nI (bC z)
    rw [us_n (by omega) (by omega), show (2 : Nat) ^ 4 = 16 from rfl, nI_add2, nI_and (by omega) (by omega)]
    rfl
  have b3 : bC z < 67108864 := by unfold bC; omega
  generalize bC z = w at e3 b3 ⊢
  have e4 : bc_d (nI w) = nI (bD w) := by
    show nI w + us (nI w) (nI 8) = nI (bD w)
    rw [us_n (by omega) (by omega), show (2 : Nat) ^ 8 = 256 from rfl, nI_add2]
    rfl
  have b4 : bD w < 134217728 := by unfold bD; omega
  generalize bD w = v at e4 b4 ⊢
  have e5 : bc_e (nI v) = nI (bE v) := by
    show nI v + us (nI v) (nI 16) = nI (bE v)
    rw [us_n (by omega) (by omega), show (2 : Nat) ^ 16 = 65536 from rfl, nI_add2]
    rfl
  have b5 : bE v < 268435456 := by unfold bE; omega
  unfold bcI
  rw [e1, e2, e3, e4, e5]
  exact nI_and (a := bE v) (b := 63) (by omega) (by decide)
theorem zcnt_t (p : Int → Bool) {n : Int} (h : 0 ≤ n) : zcnt p (n + 1) = zcnt p n + ((p n).toNat : Int) := by
  rw [zcnt_s p h]
  cases p n
  · show zcnt p n = zcnt p n + 0
    omega
  · rfl
theorem zcnt_8 (p : Int → Bool) {n : Int} (h : 0 ≤ n) : zcnt p (n + 8) = zcnt p n + (((p n).toNat + (p (n + 1)).toNat + (p (n + 2)).toNat + (p (n + 3)).toNat + (p (n + 4)).toNat + (p (n + 5)).toNat + (p (n + 6)).toNat + (p (n + 7)).toNat : Nat) : Int) := by
  have h0 := zcnt_t p h
  have h1 := zcnt_t p (n := n + 1) (by omega)
  have h2 := zcnt_t p (n := n + 2) (by omega)
  have h3 := zcnt_t p (n := n + 3) (by omega)
  have h4 := zcnt_t p (n := n + 4) (by omega)
  have h5 := zcnt_t p (n := n + 5) (by omega)
  have h6 := zcnt_t p (n := n + 6) (by omega)
  have h7 := zcnt_t p (n := n + 7) (by omega)
  rw [show n + 1 + 1 = n + 2 by omega] at h1
  rw [show n + 2 + 1 = n + 3 by omega] at h2
  rw [show n + 3 + 1 = n + 4 by omega] at h3
  rw [show n + 4 + 1 = n + 5 by omega] at h4
  rw [show n + 5 + 1 = n + 6 by omega] at h5
  rw [show n + 6 + 1 = n + 7 by omega] at h6
  rw [show n + 7 + 1 = n + 8 by omega] at h7
  omega
theorem bi_nI {x : Nat} (hx : x < 16777216) (i : Nat) : bi (nI x) (i : Int) = x.testBit i := by
  show (BitVec.ofNat 32 x).getLsbD i = x.testBit i
  show (BitVec.ofNat 32 x).toNat.testBit i = x.testBit i
  rw [BitVec.toNat_ofNat, Nat.mod_eq_of_lt (by omega)]
theorem tb_2 {a b : Nat} (ha : a < 256) (i : Nat) : (a + 256 * b).testBit i = if i < 8 then a.testBit i else b.testBit (i - 8) := by
  rw [Nat.add_comm]
  exact Nat.testBit_two_pow_mul_add b (i := 8) ha i
theorem card_n {x : Nat} (hx : x < 16777216) : card (nI x) = ((yC (x % 256) + yC (x / 256 % 256) + yC (x / 65536) : Nat) : Int) := by
  have hz : ∀ i : Nat, 24 ≤ i → bi (nI x) (i : Int) = false := fun i hi => by
    rw [bi_nI hx]
    have h24 : 2 ^ 24 ≤ 2 ^ i := Nat.pow_le_pow_right (by decide) hi
    exact Nat.testBit_lt_two_pow (Nat.lt_of_lt_of_le hx h24)
  have e : x = x % 256 + 256 * (x / 256 % 256 + 256 * (x / 65536)) := by omega
  have t : ∀ i : Nat, bi (nI x) (i : Int) = if i < 8 then (x % 256).testBit i else if i - 8 < 8 then (x / 256 % 256).testBit (i - 8) else (x / 65536).testBit (i - 8 - 8) := fun i => by
    rw [bi_nI hx]
    conv => lhs; rw [e]
    rw [tb_2 (by omega), tb_2 (by omega)]
  have u0 : bi (nI x) 0 = (x % 256).testBit 0 := t 0
  have u1 : bi (nI x) 1 = (x % 256).testBit 1 := t 1
  have u2 : bi (nI x) 2 = (x % 256).testBit 2 := t 2
  have u3 : bi (nI x) 3 = (x % 256).testBit 3 := t 3
  have u4 : bi (nI x) 4 = (x % 256).testBit 4 := t 4
  have u5 : bi (nI x) 5 = (x % 256).testBit 5 := t 5
  have u6 : bi (nI x) 6 = (x % 256).testBit 6 := t 6
  have u7 : bi (nI x) 7 = (x % 256).testBit 7 := t 7
  have u8 : bi (nI x) 8 = (x / 256 % 256).testBit 0 := t 8
  have u9 : bi (nI x) 9 = (x / 256 % 256).testBit 1 := t 9
  have u10 : bi (nI x) 10 = (x / 256 % 256).testBit 2 := t 10
  have u11 : bi (nI x) 11 = (x / 256 % 256).testBit 3 := t 11
  have u12 : bi (nI x) 12 = (x / 256 % 256).testBit 4 := t 12
  have u13 : bi (nI x) 13 = (x / 256 % 256).testBit 5 := t 13
  have u14 : bi (nI x) 14 = (x / 256 % 256).testBit 6 := t 14
  have u15 : bi (nI x) 15 = (x / 256 % 256).testBit 7 := t 15
  have u16 : bi (nI x) 16 = (x / 65536).testBit 0 := t 16
  have u17 : bi (nI x) 17 = (x / 65536).testBit 1 := t 17
  have u18 : bi (nI x) 18 = (x / 65536).testBit 2 := t 18
  have u19 : bi (nI x) 19 = (x / 65536).testBit 3 := t 19
  have u20 : bi (nI x) 20 = (x / 65536).testBit 4 := t 20
  have u21 : bi (nI x) 21 = (x / 65536).testBit 5 := t 21
  have u22 : bi (nI x) 22 = (x / 65536).testBit 6 := t 22
  have u23 : bi (nI x) 23 = (x / 65536).testBit 7 := t 23
  have u24 : bi (nI x) 24 = false := hz 24 (by omega)
  have u25 : bi (nI x) 25 = false := hz 25 (by omega)
  have u26 : bi (nI x) 26 = false := hz 26 (by omega)
  have u27 : bi (nI x) 27 = false := hz 27 (by omega)
  have u28 : bi (nI x) 28 = false := hz 28 (by omega)
  have u29 : bi (nI x) 29 = false := hz 29 (by omega)
  have u30 : bi (nI x) 30 = false := hz 30 (by omega)
  have u31 : bi (nI x) 31 = false := hz 31 (by omega)
  have c0 : zcnt (bi (nI x)) 8 = zcnt (bi (nI x)) 0 + (((bi (nI x) 0).toNat + (bi (nI x) 1).toNat + (bi (nI x) 2).toNat + (bi (nI x) 3).toNat + (bi (nI x) 4).toNat + (bi (nI x) 5).toNat + (bi (nI x) 6).toNat + (bi (nI x) 7).toNat : Nat) : Int) := zcnt_8 (bi (nI x)) (n := 0) (by omega)
  have c1 : zcnt (bi (nI x)) 16 = zcnt (bi (nI x)) 8 + (((bi (nI x) 8).toNat + (bi (nI x) 9).toNat + (bi (nI x) 10).toNat + (bi (nI x) 11).toNat + (bi (nI x) 12).toNat + (bi (nI x) 13).toNat + (bi (nI x) 14).toNat + (bi (nI x) 15).toNat : Nat) : Int) := zcnt_8 (bi (nI x)) (n := 8) (by omega)
  have c2 : zcnt (bi (nI x)) 24 = zcnt (bi (nI x)) 16 + (((bi (nI x) 16).toNat + (bi (nI x) 17).toNat + (bi (nI x) 18).toNat + (bi (nI x) 19).toNat + (bi (nI x) 20).toNat + (bi (nI x) 21).toNat + (bi (nI x) 22).toNat + (bi (nI x) 23).toNat : Nat) : Int) := zcnt_8 (bi (nI x)) (n := 16) (by omega)
  have c3 : zcnt (bi (nI x)) 32 = zcnt (bi (nI x)) 24 + (((bi (nI x) 24).toNat + (bi (nI x) 25).toNat + (bi (nI x) 26).toNat + (bi (nI x) 27).toNat + (bi (nI x) 28).toNat + (bi (nI x) 29).toNat + (bi (nI x) 30).toNat + (bi (nI x) 31).toNat : Nat) : Int) := zcnt_8 (bi (nI x)) (n := 24) (by omega)
  have c4 : zcnt (bi (nI x)) 32 = zcnt (bi (nI x)) 31 + ((bi (nI x) 31).toNat : Int) := zcnt_t (bi (nI x)) (n := 31) (by omega)
  rw [u0, u1, u2, u3, u4, u5, u6, u7, ← y_4 (x % 256) (by omega)] at c0
  rw [u8, u9, u10, u11, u12, u13, u14, u15, ← y_4 (x / 256 % 256) (by omega)] at c1
  rw [u16, u17, u18, u19, u20, u21, u22, u23, ← y_4 (x / 65536) (by omega)] at c2
  rw [u24, u25, u26, u27, u28, u29, u30, u31] at c3
  rw [u31] at c4
  have z0 : zcnt (bi (nI x)) 0 = 0 := rfl
  have w3 : zcnt (bi (nI x)) 32 = zcnt (bi (nI x)) 24 + 0 := c3
  have w4 : zcnt (bi (nI x)) 32 = zcnt (bi (nI x)) 31 + 0 := c4
  show zcnt (bi (nI x)) 31 = _
  omega
/-- the count of a row's bits, where the last byte is empty -/
theorem bc_card24 {u : Int32} (h : ∀ i : Int, 24 ≤ i → i < 32 → bi u i = false) : bcI u = qI (card u) := by
  obtain ⟨x, hx, rfl⟩ := u_lt (n := 24) (fun i h1 h2 => h i (by omega) h2)
  replace hx : x < 16777216 := hx
  rw [bcI_n hx, card_n hx, qI_nI]
  have e : x = x % 256 + 256 * (x / 256 % 256 + 256 * (x / 65536)) := by omega
  have h3 := bc_3 (a := x % 256) (b := x / 256 % 256) (c := x / 65536) (by omega) (by omega) (by omega)
  rw [← e] at h3
  rw [h3]
