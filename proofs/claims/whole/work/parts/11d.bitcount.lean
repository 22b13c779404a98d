def okB : Nat → Nat → Prop
  | 0, _ => True
  | k + 1, n => n % 256 % 16 ≤ 4 ∧ n % 256 / 16 ≤ 4 ∧ okB k (n / 256)
theorem pb3_a : ∀ b, b < 69 → ∀ r, r < 5 → (b + b / 16 + 16 * r) &&& 15 = (b + b / 16) &&& 15 := by decide +kernel
theorem stB3 : ∀ (k n : Nat), n < 256 ^ k → okB k n → n + n / 16 < 256 ^ k ∧ (n + n / 16) &&& mskB 15 k = mapB pb3 k n
  | 0, n, h, _ => by
    have : n = 0 := by simpa using h
    subst this
    exact ⟨by decide, rfl⟩
  | k + 1, n, h, ho => by
    have hk : n / 256 < 256 ^ k := Nat.div_lt_of_lt_mul (by rw [Nat.pow_succ] at h; omega)
    have ih := stB3 k (n / 256) hk ho.2.2
    have hb : n % 256 < 69 := by have := ho.1; have := ho.2.1; omega
    have hm : n / 256 % 16 < 5 := by
      cases k with
      | zero =>
        have : n / 256 = 0 := by simpa using hk
        rw [this]
        decide
      | succ k =>
        have := ho.2.2.1
        omega
    have e1 : n + n / 16 = (n % 256 + n % 256 / 16 + 16 * (n / 256 % 16)) + 256 * (n / 256 + n / 256 / 16) := by omega
    have h2 : n % 256 + n % 256 / 16 + 16 * (n / 256 % 16) < 256 := by have := ho.2.1; omega
    refine ⟨?_, ?_⟩
    · rw [e1, Nat.pow_succ]
      have := ih.1
      omega
    · rw [e1, mskB, and_split h2 (by decide), pb3_a _ hb _ hm, mapB, ← ih.2]
      rfl
theorem mapB_comp {f g : Nat → Nat} (hf : ∀ b, b < 256 → f b < 256) : ∀ (k n : Nat), mapB g k (mapB f k n) = mapB (fun b => g (f b)) k n
  | 0, _ => rfl
  | k + 1, n => by
    have hb := hf (n % 256) (Nat.mod_lt _ (by decide))
    rw [mapB, mapB, mapB]
    have e1 : (f (n % 256) + 256 * mapB f k (n / 256)) % 256 = f (n % 256) := by omega
    have e2 : (f (n % 256) + 256 * mapB f k (n / 256)) / 256 = mapB f k (n / 256) := by omega
    rw [e1, e2, mapB_comp hf k]
theorem mapB_lt {f : Nat → Nat} (hf : ∀ b, b < 256 → f b < 256) : ∀ (k n : Nat), mapB f k n < 256 ^ k
  | 0, _ => Nat.zero_lt_one
  | k + 1, n => by
    have hb := hf (n % 256) (Nat.mod_lt _ (by decide))
    have ih := mapB_lt hf k (n / 256)
    rw [mapB, Nat.pow_succ]
    omega
theorem mapB_ok {f : Nat → Nat} (hf : ∀ b, b < 256 → f b < 256 ∧ f b % 16 ≤ 4 ∧ f b / 16 ≤ 4) : ∀ (k n : Nat), okB k (mapB f k n)
  | 0, _ => trivial
  | k + 1, n => by
    have hb := hf (n % 256) (Nat.mod_lt _ (by decide))
    rw [mapB]
    have e1 : (f (n % 256) + 256 * mapB f k (n / 256)) % 256 = f (n % 256) := by omega
    have e2 : (f (n % 256) + 256 * mapB f k (n / 256)) / 256 = mapB f k (n / 256) := by omega
    unfold okB
    rw [e1, e2]
    exact ⟨hb.2.1, hb.2.2, mapB_ok hf k _⟩
def pcB (b : Nat) : Nat := pb3 (pb2 (pb1 b))
theorem pb1_lt : ∀ b, b < 256 → pb1 b < 256 := by decide +kernel
theorem pb2_ok : ∀ b, b < 256 → pb2 (pb1 b) < 256 ∧ pb2 (pb1 b) % 16 ≤ 4 ∧ pb2 (pb1 b) / 16 ≤ 4 := by decide +kernel
theorem pcB_eq : ∀ b, b < 256 → pcB b = fb_ct (fun i => b.testBit i) 8 ∧ pcB b ≤ 8 := by decide +kernel
def uL (x : Int64) : Nat := x.toUInt64.toNat
theorem uL_lt (x : Int64) : uL x < 18446744073709551616 := x.toUInt64.toNat_lt
theorem uL_add (x y : Int64) : uL (x + y) = (uL x + uL y) % 18446744073709551616 := by
  show (x.toUInt64 + y.toUInt64).toNat = _
  exact UInt64.toNat_add _ _
theorem uL_and (x y : Int64) : uL (x &&& y) = uL x &&& uL y := by
  show (x.toUInt64 &&& y.toUInt64).toNat = _
  exact UInt64.toNat_and _ _
theorem uL_sub {x y : Int64} (h : uL y ≤ uL x) : uL (x - y) = uL x - uL y := by
  show (x.toUInt64 - y.toUInt64).toNat = _
  rw [UInt64.toNat_sub_of_le _ _ (UInt64.le_iff_toNat_le.mpr h)]
  rfl
theorem uL_shr (x : Int64) {k : Nat} (hk : k < 64) : uL (x.toUInt64 >>> ((nI k).toInt64.toUInt64 &&& Int64.toUInt64 63)).toInt64 = uL x / 2 ^ k := by
  have h : ∀ k, k < 64 → ((nI k).toInt64.toUInt64 &&& Int64.toUInt64 63).toNat % 64 = k := by decide +kernel
  show (x.toUInt64 >>> ((nI k).toInt64.toUInt64 &&& Int64.toUInt64 63)).toNat = _
  rw [UInt64.toNat_shiftRight, Nat.shiftRight_eq_div_pow, h k hk]
  rfl
