theorem msk85 : mskB 85 8 = 6148914691236517205 := by decide
theorem msk51 : mskB 51 8 = 3689348814741910323 := by decide
theorem msk15 : mskB 15 8 = 1085102592571150095 := by decide
theorem bc1_u (x : Int64) : uL (bc1 x) = mapB pb1 8 (uL x) := by
  have h := stB1 8 (uL x) (Nat.lt_of_lt_of_eq (uL_lt x) (by decide))
  have e : uL ((x.toUInt64 >>> ((nI 1).toInt64.toUInt64 &&& Int64.toUInt64 63)).toInt64 &&& (6148914691236517205 : Int64)) = (uL x / 2) &&& mskB 85 8 := by
    rw [uL_and, uL_shr x (by decide), msk85]
    rfl
  unfold bc1
  rw [uL_sub (by rw [e]; exact h.1), e]
  exact h.2
theorem bc2_u (x : Int64) (hx : uL x < 256 ^ 8) (hs : mapB pb2 8 (uL x) < 18446744073709551616) : uL (bc2 x) = mapB pb2 8 (uL x) := by
  have h := stB2 8 (uL x) hx
  have e1 : uL ((x.toUInt64 >>> ((nI 2).toInt64.toUInt64 &&& Int64.toUInt64 63)).toInt64 &&& (3689348814741910323 : Int64)) = (uL x / 4) &&& mskB 51 8 := by
    rw [uL_and, uL_shr x (by decide), msk51]
    rfl
  have e2 : uL (x &&& (3689348814741910323 : Int64)) = uL x &&& mskB 51 8 := by
    rw [uL_and, msk51]
    rfl
  unfold bc2
  rw [uL_add, e1, e2, h]
  exact Nat.mod_eq_of_lt hs
theorem bc3_u (x : Int64) (hx : uL x < 256 ^ 8) (ho : okB 8 (uL x)) : uL (bc3 x) = mapB pb3 8 (uL x) := by
  have h := stB3 8 (uL x) hx ho
  have e1 : uL (x + (x.toUInt64 >>> ((nI 4).toInt64.toUInt64 &&& Int64.toUInt64 63)).toInt64) = uL x + uL x / 16 := by
    rw [uL_add, uL_shr x (by decide)]
    exact Nat.mod_eq_of_lt (Nat.lt_of_lt_of_eq h.1 (by decide))
  unfold bc3
  rw [uL_and, e1, ← h.2, msk15]
  rfl
theorem bc123 (x : Int64) : uL (bc3 (bc2 (bc1 x))) = mapB pcB 8 (uL x) := by
  have hx : uL x < 256 ^ 8 := Nat.lt_of_lt_of_eq (uL_lt x) (by decide)
  have e1 := bc1_u x
  have l1 : uL (bc1 x) < 256 ^ 8 := by rw [e1]; exact mapB_lt pb1_lt 8 _
  have e12 : mapB pb2 8 (uL (bc1 x)) = mapB (fun b => pb2 (pb1 b)) 8 (uL x) := by rw [e1, mapB_comp pb1_lt]
  have l2 : mapB pb2 8 (uL (bc1 x)) < 256 ^ 8 := by rw [e12]; exact mapB_lt (fun b hb => (pb2_ok b hb).1) 8 _
  have e2 := bc2_u (bc1 x) l1 (Nat.lt_of_lt_of_eq l2 (by decide))
  have o2 : okB 8 (uL (bc2 (bc1 x))) := by rw [e2, e12]; exact mapB_ok pb2_ok 8 _
  have e3 := bc3_u (bc2 (bc1 x)) (by rw [e2]; exact l2) o2
  rw [e3, e2, e12, mapB_comp (fun b hb => (pb2_ok b hb).1)]
  rfl
theorem ct_bytes : ∀ (k n : Nat) (f : Nat → Nat), (∀ b, b < 256 → f b = fb_ct (fun i => b.testBit i) 8) → n < 256 ^ k → fb_ct (fun i => n.testBit i) (8 * k) = fb_sm (fun j => f (n / 256 ^ j % 256)) k
  | 0, _, _, _, _ => rfl
  | k + 1, n, f, hf, h => by
    have e0 : 8 * (k + 1) = 8 * k + 8 := by omega
    rw [e0, fb_ct_split, fb_sm_succ]
    have hl : n % 256 ^ k < 256 ^ k := Nat.mod_lt _ (Nat.pow_pos (by decide))
    have p8 : (256 : Nat) ^ k = 2 ^ (8 * k) := by rw [Nat.pow_mul]
    have e1 : fb_ct (fun i => n.testBit i) (8 * k) = fb_ct (fun i => (n % 256 ^ k).testBit i) (8 * k) := fb_ct_cong (fun i hi => by rw [p8, Nat.testBit_mod_two_pow]; simp [hi])
    have e2 : fb_sm (fun j => f (n / 256 ^ j % 256)) k = fb_sm (fun j => f (n % 256 ^ k / 256 ^ j % 256)) k := fb_sm_cong (fun j hj => by
      have hd : 256 ^ k = 256 ^ j * 256 ^ (k - j) := by rw [← Nat.pow_add]; congr 1; omega
      have hd2 : 256 ^ (k - j) = 256 * 256 ^ (k - j - 1) := by rw [← Nat.pow_succ']; congr 1; omega
      rw [hd, Nat.mod_mul_right_div_self, hd2, Nat.mod_mul_right_mod])
    rw [e1, ct_bytes k (n % 256 ^ k) f hf hl, ← e2]
    congr 1
    rw [hf _ (Nat.mod_lt _ (by decide))]
    exact fb_ct_cong (fun i hi => by
      have : n / 256 ^ k % 256 = n / 2 ^ (8 * k) % 2 ^ 8 := by rw [p8]
      rw [this, Nat.testBit_mod_two_pow, Nat.testBit_div_two_pow]
      simp [hi, Nat.add_comm])
