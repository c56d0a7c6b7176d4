/-! BITS COUNTED: three bytes -/
def bA (x : Nat) : Nat := x - ((x / 2) &&& 1431655765)
def bB (x : Nat) : Nat := (x &&& 858993459) + ((x / 4) &&& 858993459)
def bC (x : Nat) : Nat := (x + x / 16) &&& 252645135
def bD (x : Nat) : Nat := x + x / 256
def bE (x : Nat) : Nat := x + x / 65536
def yA (b : Nat) : Nat := b - ((b / 2) &&& 85)
def yB (a : Nat) : Nat := (a &&& 51) + ((a / 4) &&& 51)
def yC (b : Nat) : Nat := yB (yA b) % 16 + yB (yA b) / 16
theorem and_2 {a b m n : Nat} (ha : a < 256) (hm : m < 256) : (a + 256 * b) &&& (m + 256 * n) = (a &&& m) + 256 * (b &&& n) := by
  have h1 := Nat.and_mod_two_pow (a := a + 256 * b) (b := m + 256 * n) (n := 8)
  have h2 := Nat.and_div_two_pow (a := a + 256 * b) (b := m + 256 * n) (n := 8)
  rw [show (2 : Nat) ^ 8 = 256 from rfl] at h1 h2
  rw [show (a + 256 * b) % 256 = a by omega, show (m + 256 * n) % 256 = m by omega] at h1
  rw [show (a + 256 * b) / 256 = b by omega, show (m + 256 * n) / 256 = n by omega] at h2
  omega
theorem and_3 {a b c m : Nat} (ha : a < 256) (hb : b < 256) (hc : c < 256) (hm : m < 256) : (a + 256 * (b + 256 * c)) &&& (m + 256 * (m + 256 * (m + 256 * m))) = (a &&& m) + 256 * ((b &&& m) + 256 * (c &&& m)) := by
  have h := and_2 (b := 0) (n := m) hc hm
  rw [Nat.mul_zero, Nat.add_zero, Nat.zero_and, Nat.mul_zero, Nat.add_zero] at h
  rw [and_2 ha hm, and_2 hb hm, h]
theorem y_1 : ∀ t, t < 2 → ∀ b, b < 256 → ((b / 2 + 128 * t) &&& 85 = (b / 2) &&& 85) ∧ (b / 2) &&& 85 ≤ b ∧ yA b < 256 := by decide +kernel
theorem y_2 : ∀ t, t < 4 → ∀ b, b < 256 → ((b / 4 + 64 * t) &&& 51 = (b / 4) &&& 51) := by decide +kernel
theorem y_3 : ∀ b, b < 256 → yB (yA b) % 16 ≤ 4 ∧ yB (yA b) / 16 ≤ 4 ∧ yB (yA b) < 256 := by decide +kernel
theorem y_4 : ∀ b, b < 256 → yC b = (b.testBit 0).toNat + (b.testBit 1).toNat + (b.testBit 2).toNat + (b.testBit 3).toNat + (b.testBit 4).toNat + (b.testBit 5).toNat + (b.testBit 6).toNat + (b.testBit 7).toNat := by decide +kernel
theorem and_15 (x : Nat) : x &&& 15 = x % 16 := Nat.and_two_pow_sub_one_eq_mod x 4
theorem and_63 (x : Nat) : x &&& 63 = x % 64 := Nat.and_two_pow_sub_one_eq_mod x 6
section
variable {a b c : Nat}
theorem bA_3 (ha : a < 256) (hb : b < 256) (hc : c < 256) : bA (a + 256 * (b + 256 * c)) = yA a + 256 * (yA b + 256 * yA c) := by
  have e : (a + 256 * (b + 256 * c)) / 2 = (a / 2 + 128 * (b % 2)) + 256 * ((b / 2 + 128 * (c % 2)) + 256 * (c / 2)) := by omega
  have em : 1431655765 = 85 + 256 * (85 + 256 * (85 + 256 * 85)) := rfl
  have h1 := y_1 (b % 2) (by omega) a ha
  have h2 := y_1 (c % 2) (by omega) b hb
  have h3 := y_1 0 (by omega) c hc
  unfold bA
  rw [e, em, and_3 (by omega) (by omega) (by omega) (by omega), h1.1, h2.1]
  unfold yA
  omega
theorem bB_3 (ha : a < 256) (hb : b < 256) (hc : c < 256) : bB (a + 256 * (b + 256 * c)) = yB a + 256 * (yB b + 256 * yB c) := by
  have e : (a + 256 * (b + 256 * c)) / 4 = (a / 4 + 64 * (b % 4)) + 256 * ((b / 4 + 64 * (c % 4)) + 256 * (c / 4)) := by omega
  have em : 858993459 = 51 + 256 * (51 + 256 * (51 + 256 * 51)) := rfl
  have h1 := y_2 (b % 4) (by omega) a ha
  have h2 := y_2 (c % 4) (by omega) b hb
  unfold bB
  rw [e, em, and_3 ha hb hc (by omega), and_3 (by omega) (by omega) (by omega) (by omega), h1, h2]
  unfold yB
  omega
theorem bC_3 (ha : a % 16 ≤ 4 ∧ a / 16 ≤ 4) (hb : b % 16 ≤ 4 ∧ b / 16 ≤ 4) (hc : c % 16 ≤ 4 ∧ c / 16 ≤ 4) : bC (a + 256 * (b + 256 * c)) = (a % 16 + a / 16) + 256 * ((b % 16 + b / 16) + 256 * (c % 16 + c / 16)) := by
  have e : a + 256 * (b + 256 * c) + (a + 256 * (b + 256 * c)) / 16 = (a + a / 16 + 16 * (b % 16)) + 256 * ((b + b / 16 + 16 * (c % 16)) + 256 * (c + c / 16)) := by omega
  have em : 252645135 = 15 + 256 * (15 + 256 * (15 + 256 * 15)) := rfl
  unfold bC
  rw [e, em, and_3 (by omega) (by omega) (by omega) (by omega), and_15, and_15, and_15]
  rw [show (a + a / 16 + 16 * (b % 16)) % 16 = a % 16 + a / 16 by omega, show (b + b / 16 + 16 * (c % 16)) % 16 = b % 16 + b / 16 by omega, show (c + c / 16) % 16 = c % 16 + c / 16 by omega]
theorem bc_3 (ha : a < 256) (hb : b < 256) (hc : c < 256) : bE (bD (bC (bB (bA (a + 256 * (b + 256 * c)))))) &&& 63 = yC a + yC b + yC c := by
  have h1 := y_1 0 (by omega) a ha
  have h2 := y_1 0 (by omega) b hb
  have h3 := y_1 0 (by omega) c hc
  have g1 := y_3 a ha
  have g2 := y_3 b hb
  have g3 := y_3 c hc
  rw [bA_3 ha hb hc, bB_3 h1.2.2 h2.2.2 h3.2.2, bC_3 ⟨g1.1, g1.2.1⟩ ⟨g2.1, g2.2.1⟩ ⟨g3.1, g3.2.1⟩, and_63]
  have p1 : yC a ≤ 8 := by unfold yC; omega
  have p2 : yC b ≤ 8 := by unfold yC; omega
  have p3 : yC c ≤ 8 := by unfold yC; omega
  show bE (bD (yC a + 256 * (yC b + 256 * yC c))) % 64 = yC a + yC b + yC c
  clear g1 g2 g3 h1 h2 h3
  generalize yC a = x at *
  generalize yC b = y at *
  generalize yC c = z at *
  unfold bE bD
  rw [show (x + 256 * (y + 256 * z)) / 256 = y + 256 * z by omega, show x + 256 * (y + 256 * z) + (y + 256 * z) = (x + y) + 256 * ((y + z) + 256 * z) by omega, show ((x + y) + 256 * ((y + z) + 256 * z)) / 65536 = z by omega]
  omega
end
