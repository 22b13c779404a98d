/-! Long.bitCount, byte by byte -/
theorem and_split {a c m d : Nat} (ha : a < 256) (hm : m < 256) : (a + 256 * c) &&& (m + 256 * d) = (a &&& m) + 256 * (c &&& d) := by
  apply Nat.eq_of_testBit_eq
  intro i
  have e1 : a + 256 * c = 2 ^ 8 * c + a := by omega
  have e2 : m + 256 * d = 2 ^ 8 * d + m := by omega
  have e3 : (a &&& m) + 256 * (c &&& d) = 2 ^ 8 * (c &&& d) + (a &&& m) := by omega
  have h3 : a &&& m < 2 ^ 8 := Nat.lt_of_le_of_lt Nat.and_le_left ha
  rw [e1, e2, e3, Nat.testBit_and, Nat.testBit_two_pow_mul_add c ha, Nat.testBit_two_pow_mul_add d hm, Nat.testBit_two_pow_mul_add (c &&& d) h3]
  split
  · rw [Nat.testBit_and]
  · rw [Nat.testBit_and]
def mapB (g : Nat → Nat) : Nat → Nat → Nat
  | 0, _ => 0
  | k + 1, n => g (n % 256) + 256 * mapB g k (n / 256)
/-- a mask of k bytes -/
def mskB (c : Nat) : Nat → Nat
  | 0 => 0
  | k + 1 => c + 256 * mskB c k
def pb1 (b : Nat) : Nat := b - ((b / 2) &&& 85)
def pb2 (b : Nat) : Nat := (b &&& 51) + ((b / 4) &&& 51)
def pb3 (b : Nat) : Nat := (b + b / 16) &&& 15
theorem pb1_a : ∀ b, b < 256 → ∀ r, r < 2 → (b / 2 + 128 * r) &&& 85 = (b / 2) &&& 85 := by decide +kernel
theorem pb2_a : ∀ b, b < 256 → ∀ r, r < 4 → (b / 4 + 64 * r) &&& 51 = (b / 4) &&& 51 := by decide +kernel
theorem stB1 : ∀ (k n : Nat), n < 256 ^ k → (n / 2) &&& mskB 85 k ≤ n ∧ n - ((n / 2) &&& mskB 85 k) = mapB pb1 k n
  | 0, n, h => by
    have : n = 0 := by simpa using h
    subst this
    exact ⟨by decide, rfl⟩
  | k + 1, n, h => by
    have hk : n / 256 < 256 ^ k := Nat.div_lt_of_lt_mul (by rw [Nat.pow_succ] at h; omega)
    have ih := stB1 k (n / 256) hk
    have hb : n % 256 < 256 := Nat.mod_lt _ (by decide)
    have e1 : n / 2 = (n % 256 / 2 + 128 * (n / 256 % 2)) + 256 * (n / 256 / 2) := by omega
    have h2 : n % 256 / 2 + 128 * (n / 256 % 2) < 256 := by omega
    have e2 : (n / 2) &&& mskB 85 (k + 1) = ((n % 256 / 2) &&& 85) + 256 * ((n / 256 / 2) &&& mskB 85 k) := by
      rw [e1, mskB, and_split h2 (by decide), pb1_a _ hb _ (Nat.mod_lt _ (by decide))]
    have h3 : (n % 256 / 2) &&& 85 ≤ n % 256 / 2 := Nat.and_le_left
    rw [e2, mapB, ← ih.2]
    unfold pb1
    have := ih.1
    constructor <;> omega
theorem stB2 : ∀ (k n : Nat), n < 256 ^ k → (n &&& mskB 51 k) + ((n / 4) &&& mskB 51 k) = mapB pb2 k n
  | 0, n, h => by
    have : n = 0 := by simpa using h
    subst this
    rfl
  | k + 1, n, h => by
    have hk : n / 256 < 256 ^ k := Nat.div_lt_of_lt_mul (by rw [Nat.pow_succ] at h; omega)
    have ih := stB2 k (n / 256) hk
    have hb : n % 256 < 256 := Nat.mod_lt _ (by decide)
    have e0 : n = n % 256 + 256 * (n / 256) := by omega
    have e1 : n / 4 = (n % 256 / 4 + 64 * (n / 256 % 4)) + 256 * (n / 256 / 4) := by omega
    have h2 : n % 256 / 4 + 64 * (n / 256 % 4) < 256 := by omega
    have e2 : (n / 4) &&& mskB 51 (k + 1) = ((n % 256 / 4) &&& 51) + 256 * ((n / 256 / 4) &&& mskB 51 k) := by
      rw [e1, mskB, and_split h2 (by decide), pb2_a _ hb _ (Nat.mod_lt _ (by decide))]
    have e3 : n &&& mskB 51 (k + 1) = (n % 256 &&& 51) + 256 * ((n / 256) &&& mskB 51 k) := by
      rw [show n &&& mskB 51 (k + 1) = (n % 256 + 256 * (n / 256)) &&& mskB 51 (k + 1) by rw [← e0], mskB, and_split hb (by decide)]
    rw [e2, e3, mapB, ← ih]
    unfold pb2
    omega
