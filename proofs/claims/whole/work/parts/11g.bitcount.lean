theorem sh_u (x : Int64) {k : Nat} (hk : k < 64) : uL (x + (x.toUInt64 >>> ((nI k).toInt64.toUInt64 &&& Int64.toUInt64 63)).toInt64) = (uL x + uL x / 2 ^ k) % 18446744073709551616 := by
  rw [uL_add, uL_shr x hk]
theorem low7 (x : Int64) : x.toInt32 &&& nI 127 = nI (uL x % 128) := by
  have e : x = lN (uL x) := by
    show x = Int64.ofNat (x.toUInt64.toNat)
    apply Int64.toBitVec_inj.mp
    apply BitVec.eq_of_toNat_eq
    show x.toBitVec.toNat = (BitVec.ofNat 64 x.toUInt64.toNat).toNat
    rw [BitVec.toNat_ofNat]
    exact (Nat.mod_eq_of_lt x.toBitVec.isLt).symm
  have h : (lN (uL x)).toInt32 &&& nI (2 ^ 7 - 1) = nI (uL x % 2 ^ 7) := by rw [lN_i, fa_mask]
  rw [← e] at h
  exact h
theorem bL_test (x : Int64) (i : Nat) : bL x i = (uL x).testBit i := by
  show x.toBitVec.getLsbD i = x.toBitVec.toNat.testBit i
  rw [BitVec.testBit_toNat]
/-- Long.bitCount counts the bits -/
theorem bitCount_eq (x : Int64) : f_J13_bitCount_95d88 x = nI (fb_ct (bL x) 64) := by
  have hx : uL x < 256 ^ 8 := Nat.lt_of_lt_of_eq (uL_lt x) (by decide)
  have e := bc123 x
  have hc := ct_bytes 8 (uL x) pcB (fun b hb => (pcB_eq b hb).1) hx
  have hb : ∀ b : Nat, pcB (b % 256) ≤ 8 := fun b => (pcB_eq _ (Nat.mod_lt _ (by decide))).2
  unfold f_J13_bitCount_95d88
  obtain ⟨y, hy⟩ : ∃ y, y = bc3 (bc2 (bc1 x)) := ⟨_, rfl⟩
  rw [← hy] at e ⊢
  rw [low7]
  have hN : uL y = pcB (uL x % 256) + 256 * (pcB (uL x / 256 % 256) + 256 * (pcB (uL x / 256 / 256 % 256) + 256 * (pcB (uL x / 256 / 256 / 256 % 256) + 256 * (pcB (uL x / 256 / 256 / 256 / 256 % 256) + 256 * (pcB (uL x / 256 / 256 / 256 / 256 / 256 % 256) + 256 * (pcB (uL x / 256 / 256 / 256 / 256 / 256 / 256 % 256) + 256 * pcB (uL x / 256 / 256 / 256 / 256 / 256 / 256 / 256 % 256))))))) := by
    rw [e]
    simp only [mapB, Nat.mul_zero, Nat.add_zero]
  obtain ⟨M, K, hM, hK, l1, l2, l3, l4⟩ := last3 (hb _) (hb _) (hb _) (hb _) (hb _) (hb _) (hb _) (hb _) hN
  have u4 : uL (bc4 y) = M := by
    unfold bc4
    rw [sh_u y (by decide), hM]
    exact Nat.mod_eq_of_lt (by rw [← hM]; exact l1)
  have u5 : uL (bc5 (bc4 y)) = K := by
    unfold bc5
    rw [sh_u _ (by decide), u4, hK]
    exact Nat.mod_eq_of_lt (by rw [← hK]; exact l2)
  have u6 : uL (bc6 (bc5 (bc4 y))) = K + K / 4294967296 := by
    unfold bc6
    rw [sh_u _ (by decide), u5]
    exact Nat.mod_eq_of_lt l3
  rw [u6, l4]
  have e64 : fb_ct (bL x) 64 = fb_ct (fun i => (uL x).testBit i) (8 * 8) := fb_ct_cong (fun i _ => bL_test x i)
  rw [e64, hc]
  clear l4 l3 l2 l1 u6 u5 u4 hK hM hN hc e64 e hx
  simp [fb_sm, Nat.div_div_eq_div_mul]
