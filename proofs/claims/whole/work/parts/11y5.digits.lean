/-! order: the model's rows, digit by digit -/
def dgt (n r k : Nat) : Nat := (r / 6 ^ (n - 1 - k)) % 6
theorem dgt_lt (n r k : Nat) : dgt n r k < 6 := Nat.mod_lt _ (by decide)
def gM (n r : Nat) : Nat → Nat
  | 0 => 0
  | k + 1 => gM n r k ||| 2 ^ dgt n r k
theorem gM_tb (n r i : Nat) : ∀ k, (gM n r k).testBit i = exB (fun j => decide (dgt n r j = i)) k
  | 0 => by rw [gM, exB, Nat.zero_testBit]
  | k + 1 => by rw [gM, exB, Nat.testBit_or, gM_tb n r i k, Nat.testBit_two_pow]
theorem gM_lt (n r : Nat) : ∀ k, gM n r k < 64
  | 0 => by rw [gM]; decide
  | k + 1 => by
    rw [gM]
    exact (or_bit _ (gM_lt n r k) _ (dgt_lt n r k)).2.1
theorem row_loop : ∀ n (x5 : Int32) (x4 : Nat) (w : Nat → Int32), (∀ j, (L_X8_isOrder_11 n x5 x4 w).2.2 j = if j < n then nI (dgt n x4 j) else w j) ∧ ∀ i, i < 32 → bI (L_X8_isOrder_11 n x5 x4 w).1 i = (bI x5 i || exB (fun j => decide (dgt n x4 j = i)) n)
  | 0, x5, x4, w => by
    rw [L_X8_isOrder_11]
    exact ⟨fun j => by rw [if_neg (by omega)], fun i _ => by rw [exB, Bool.or_false]⟩
  | n + 1, x5, x4, w => by
    rw [L_X8_isOrder_11]
    obtain ⟨i1, i2⟩ := row_loop n (x5 ||| (nI 1 <<< (((upd w n (nI (x4 % 6))) n) &&& 31))) (x4 / 6) (upd w n (nI (x4 % 6)))
    have hd : ∀ j, j < n → dgt n (x4 / 6) j = dgt (n + 1) x4 j := fun j hj => by
      unfold dgt
      rw [Nat.div_div_eq_div_mul, show n + 1 - 1 - j = (n - 1 - j) + 1 by omega, Nat.pow_succ, Nat.mul_comm]
    have hn : dgt (n + 1) x4 n = x4 % 6 := by
      unfold dgt
      rw [show n + 1 - 1 - n = 0 by omega, Nat.pow_zero, Nat.div_one]
    refine ⟨fun j => ?_, fun i hi => ?_⟩
    · rw [i1 j]
      by_cases c : j < n
      · rw [if_pos c, if_pos (by omega), hd j c]
      · rw [if_neg c]
        by_cases e : j = n
        · subst e
          rw [pk_us, if_pos (by omega), hn]
        · rw [pk_un e, if_neg (by omega)]
    · rw [i2 i hi, pk_us, bI_or, bI_one _ (by have := Nat.mod_lt x4 (show 0 < 6 by decide); omega) i hi, exB, hn, exB_cong (q := fun j => decide (dgt (n + 1) x4 j = i)) (fun j hj => by rw [hd j hj]), Bool.or_assoc]
      congr 1
      rw [Bool.or_comm]
      congr 1
      rw [decide_eq_decide]
      exact eq_comm
theorem seen_eq (n r : Nat) (w : Nat → Int32) : (L_X8_isOrder_11 n (nI 0) r w).1 = nI (gM n r n) := by
  refine bI_ext (fun i hi => ?_)
  rw [(row_loop n (nI 0) r w).2 i hi, bI_nI _ (gM_lt n r n) i hi, gM_tb, nI_0, bI_0, Bool.false_or]
theorem isOrder_iff {rw_ : MKp} {n r s : Nat} (hs : s < 64) : (f_X8_isOrder rw_ r (nI s) n).1 = 0 ↔ ¬ gM n r n = s := by
  unfold f_X8_isOrder
  dsimp only
  rw [seen_eq]
  have := gM_lt n r n
  by_cases e : gM n r n = s
  · rw [if_pos (by rw [e])]
    exact ⟨fun z => absurd z (by decide), fun z => absurd e z⟩
  · rw [if_neg (fun z => e ((nI_eq (by omega) (by omega)).mp z))]
    exact ⟨fun _ => e, fun _ => nI_0⟩
theorem gM_step (n r k : Nat) : fb_ct (fun i => (gM n r (k + 1)).testBit i) 6 + (if (gM n r k).testBit (dgt n r k) = true then 1 else 0) = fb_ct (fun i => (gM n r k).testBit i) 6 + 1 := by
  have h := fb_ct_upd (fun i => (gM n r k).testBit i) true (i := dgt n r k) (n := 6) (dgt_lt n r k)
  have e : fb_ct (fun i => (gM n r (k + 1)).testBit i) 6 = fb_ct (fun i => if i = dgt n r k then true else (gM n r k).testBit i) 6 := fb_ct_cong (fun i _ => by
    rw [gM, Nat.testBit_or, Nat.testBit_two_pow]
    by_cases z : i = dgt n r k
    · rw [if_pos z, decide_eq_true z.symm, Bool.or_true]
    · rw [if_neg z, decide_eq_false (fun y => z y.symm), Bool.or_false])
  rw [e]
  exact h
theorem gM_up (n r k : Nat) : ∀ t, fb_ct (fun i => (gM n r (k + t)).testBit i) 6 ≤ fb_ct (fun i => (gM n r k).testBit i) 6 + t
  | 0 => Nat.le_refl _
  | t + 1 => by
    have h1 := gM_up n r k t
    have h2 := gM_step n r (k + t)
    rw [show k + (t + 1) = k + t + 1 by omega]
    split at h2 <;> omega
theorem gM_ct0 (n r k : Nat) : fb_ct (fun i => (gM n r k).testBit i) 6 ≤ k := by
  have h := gM_up n r 0 k
  rw [Nat.zero_add] at h
  have : fb_ct (fun i => (gM n r 0).testBit i) 6 = 0 := fb_ct_zero.mpr (fun i _ => by rw [gM, Nat.zero_testBit])
  omega
/-- a row of all of a set has each once -/
theorem gM_new {n r : Nat} (hn : fb_ct (fun i => (gM n r n).testBit i) 6 = n) {k : Nat} (hk : k < n) : (gM n r k).testBit (dgt n r k) = false := by
  cases e : (gM n r k).testBit (dgt n r k)
  · rfl
  · have h1 := gM_step n r k
    rw [if_pos e] at h1
    have h2 := gM_ct0 n r k
    have h3 := gM_up n r (k + 1) (n - (k + 1))
    rw [show k + 1 + (n - (k + 1)) = n by omega] at h3
    omega
theorem gM_has {n r j k : Nat} (h : j < k) : (gM n r k).testBit (dgt n r j) = true := by
  rw [gM_tb]
  exact (exB_iff _ k).mpr ⟨j, h, decide_eq_true rfl⟩
theorem dgt_ne {n r : Nat} (hn : fb_ct (fun i => (gM n r n).testBit i) 6 = n) {j k : Nat} (hj : j < k) (hk : k < n) : dgt n r j ≠ dgt n r k := fun e => by
  have h1 := gM_new hn hk
  rw [← e, gM_has hj] at h1
  exact absurd h1 (by decide)
theorem mod_dig (n r m : Nat) (h : m + 1 ≤ n) : (r % 6 ^ (m + 1)) / 6 ^ m = dgt n r (n - (m + 1)) ∧ (r % 6 ^ (m + 1)) % 6 ^ m = r % 6 ^ m := by
  rw [Nat.pow_succ]
  refine ⟨?_, Nat.mod_mod_of_dvd _ (Nat.dvd_mul_right _ _)⟩
  rw [Nat.mod_mul_right_div_self]
  unfold dgt
  rw [show n - 1 - (n - (m + 1)) = m by omega]
theorem gM_next {n r m : Nat} (h : m + 1 ≤ n) : gM n r (n - (m + 1)) ||| 2 ^ dgt n r (n - (m + 1)) = gM n r (n - m) := by
  rw [show n - m = n - (m + 1) + 1 by omega, gM]
theorem oV_valid {s n r : Nat} {S : Nat → Nat} {c : Nat → Nat → Nat} : ∀ m v, m ≤ n → oV s S c m (gM n r (n - m)) (r % 6 ^ m) = some v → gM n r n = s
  | 0, v, _, h => by
    rw [oV, Nat.sub_zero] at h
    by_cases e : gM n r n = s
    · exact e
    · rw [if_neg e] at h
      cases h
  | m + 1, v, hm, h => by
    obtain ⟨x, _, h2, _⟩ := oV_key h
    rw [(mod_dig n r m hm).1, (mod_dig n r m hm).2, gM_next hm] at h2
    exact oV_valid m x (by omega) h2
theorem oV_some {s n r : Nat} {S : Nat → Nat} {c : Nat → Nat → Nat} (hs : gM n r n = s) (hn : fb_ct (fun i => (gM n r n).testBit i) 6 = n) : ∀ m, m ≤ n → (∀ j, n - m ≤ j → j < n → S (gM n r j) < 60) → oV s S c m (gM n r (n - m)) (r % 6 ^ m) = some (fb_sm (fun t => c (dgt n r (n - m + t)) (S (gM n r (n - m + t)))) m)
  | 0, _, _ => by
    rw [oV, Nat.sub_zero, if_pos hs]
    rfl
  | m + 1, hm, h => by
    have hi : insB s (gM n r (n - (m + 1))) (dgt n r (n - (m + 1))) = true := by
      unfold insB
      rw [gM_new hn (by omega), ← hs, gM_has (by omega)]
      rfl
    rw [oV, (mod_dig n r m hm).1, (mod_dig n r m hm).2, gM_next hm, if_pos ⟨hi, h _ (Nat.le_refl _) (by omega)⟩, oV_some hs hn m (by omega) (fun j h1 h2 => h j (by omega) h2), sm_front (fun t => c (dgt n r t) (S (gM n r t))), show n - m = n - (m + 1) + 1 by omega]
    rfl
theorem oV_stop {s n r : Nat} {S : Nat → Nat} {c : Nat → Nat → Nat} : ∀ m, m ≤ n → (∃ j, n - m ≤ j ∧ j < n ∧ ¬ S (gM n r j) < 60) → oV s S c m (gM n r (n - m)) (r % 6 ^ m) = none
  | 0, _, ⟨j, h1, h2, _⟩ => by omega
  | m + 1, hm, ⟨j, h1, h2, h3⟩ => by
    rw [oV, (mod_dig n r m hm).1, (mod_dig n r m hm).2, gM_next hm]
    by_cases z : insB s (gM n r (n - (m + 1))) (dgt n r (n - (m + 1))) = true ∧ S (gM n r (n - (m + 1))) < 60
    · rw [if_pos z]
      by_cases e : j = n - (m + 1)
      · rw [e] at h3
        exact absurd z.2 h3
      · rw [oV_stop m (by omega) ⟨j, by omega, h2, h3⟩]
        rfl
    · rw [if_neg z]
