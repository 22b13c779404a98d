theorem bL_hi : ∀ a, a < 64 → ∀ i, i < 64 → bL ((-1 : Int64) <<< ((nI a).toInt64 &&& 63)) i = decide (a ≤ i) := by decide +kernel
theorem bL_lo : ∀ e, e < 60 → ∀ i, i < 64 → bL (((-1 : Int64).toUInt64 >>> ((nI 63 - nI e).toInt64.toUInt64 &&& Int64.toUInt64 63)).toInt64) i = decide (i ≤ e) := by decide +kernel
/-- seconds a .. b as bits -/
theorem span_bit {a b i : Nat} (ha : a < 2 ^ 30) (hb : b < 2 ^ 30) (hi : i < 64) : bL (f_X7_span (nI a) (nI b)) i = decide (a ≤ i ∧ i ≤ b ∧ i ≤ 59) := by
  unfold f_X7_span
  rw [if_neg (nI_pos (by omega))]
  obtain ⟨e, he, e1, e2⟩ : ∃ e, e ≤ 59 ∧ (if nI 59 ≤ nI b then nI 59 else nI b) = nI e ∧ (∀ i, i ≤ e ↔ (i ≤ b ∧ i ≤ 59)) := by
    by_cases h : 59 ≤ b
    · exact ⟨59, by omega, if_pos ((nI_leI (by decide) (by omega)).mpr h), fun i => by omega⟩
    · exact ⟨b, by omega, if_neg (fun q => h ((nI_leI (by decide) (by omega)).mp q)), fun i => by omega⟩
  rw [e1]
  by_cases h : a ≤ e
  · rw [if_pos ((nI_leI (by omega) (by omega)).mpr h), bL_and, bL_hi a (by omega) i hi, bL_lo e (by omega) i hi]
    have := e2 i
    by_cases h1 : a ≤ i <;> by_cases h2 : i ≤ e <;> simp [h1, h2] <;> omega
  · rw [if_neg (fun q => h ((nI_leI (by omega) (by omega)).mp q)), bL_0]
    have := e2 i
    symm
    rw [decide_eq_false_iff_not]
    omega
