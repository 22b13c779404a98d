/-! who stands in which second -/
def SI (to st : Nat → Int32) (p i : Nat) : Bool := decide (¬ f_X8_standsIn to st p (nI i) = 0)
theorem standsIn_num {to st : Nat → Int32} {p w sy s c i : Nat} (hw : f_X8_walkOf to p = nI w) (hy : to (13 + p) = nI sy) (hs : st (60 + p) = nI s) (hc : st 72 = nI c) (bw : w ≤ 20) (b1 : 1 ≤ sy) (by_ : sy ≤ 6) (bs : s < 1000) (bc : c ≤ 9) (bi : i < 1000) : SI to st p i = decide (s + w + c ≤ i ∧ i < s + w + c + sy) := by
  unfold SI f_X8_standsIn f_X8_thereBy
  rw [hs, if_pos (nI_pos' (by omega)), hw, hy, hc, nI_add, nI_add, nI_add]
  have e : nI (s + w + c + sy) - nI 1 = nI (s + w + c + sy - 1) := by
    have e5 : nI (s + w + c + sy - 1) + nI 1 = nI (s + w + c + sy) := by
      rw [nI_add]
      congr 1
      omega
    rw [← e5, Int32.add_sub_cancel]
  rw [e, decide_eq_decide, in_iff, nI_l (by omega), nI_l (by omega), nI_l (by omega), lN_le (by omega) (by omega), lN_le (by omega) (by omega), Decidable.not_not]
  omega
theorem standsIn_m1 {to st : Nat → Int32} {p i : Nat} (hs : st (60 + p) = -1) : SI to st p i = false := by
  unfold SI f_X8_standsIn
  rw [hs, if_neg (by decide)]
  decide
/-- a start that is none or a number -/
def staR (x : Int32) : Prop := x = -1 ∨ ∃ s, s < 1000 ∧ x = nI s
theorem stands_bit {td : XTd} {to st : Nat → Int32} (hT : toldR td to) {p i c : Nat} {sta clk : Int32} (hp : p < pN td) (h60 : st (60 + p) = sta) (h72 : st 72 = clk) (hs : staR sta) (hc : clk = nI c) (bc : c ≤ 9) (hi : i < 64) : bL (f_X1_stands td (nI p) sta clk) i = (decide (i < 60) && SI to st p i) := by
  obtain ⟨w1, w2, w3, w4⟩ := told_walk hT hp
  obtain ⟨y1, y2, y3, y4⟩ := told_stay hT hp
  rcases hs with hs | ⟨s, s1, s2⟩
  · rw [standsIn_m1 (h60.trans hs), f_X1_stands, if_pos hs, bL_0, Bool.and_false]
  · have hne : ¬ sta = -1 := by
      intro e
      rw [s2] at e
      have := nI_pos (n := s) (by omega)
      rw [e] at this
      exact this (by decide)
    rw [standsIn_num (s := s) (c := c) w2 y2 (h60.trans s2) (h72.trans hc) w4 y3 y4 s1 bc (by omega), f_X1_stands, if_neg hne, w1, y1, s2, hc, nI_add, nI_add, nI_add]
    have e : nI (s + wkN to p + c + stN to p) - nI 1 = nI (s + wkN to p + c + stN to p - 1) := by
      have e5 : nI (s + wkN to p + c + stN to p - 1) + nI 1 = nI (s + wkN to p + c + stN to p) := by
        rw [nI_add]
        congr 1
        omega
      rw [← e5, Int32.add_sub_cancel]
    rw [e, span_bit (by omega) (by omega) hi, ← Bool.decide_and, decide_eq_decide]
    omega
/-! sums over seconds and over people -/
theorem sm_one {t : Nat → Nat} {q0 : Nat} : ∀ {n : Nat}, q0 < n → fb_sm (fun q => if (decide (q = q0)) = true then t q else 0) n = t q0
  | 0, h => absurd h (Nat.not_lt_zero _)
  | n + 1, h => by
    rw [fb_sm_succ]
    by_cases e : n = q0
    · subst e
      have z : fb_sm (fun q => if (decide (q = n)) = true then t q else 0) n = fb_sm (fun _ => 0) n := fb_sm_cong (fun k hk => by
        rw [if_neg]
        simp
        omega)
      rw [z, fb_sm_const]
      simp
    · rw [sm_one (by omega)]
      simp [e]
theorem sm_zero {f : Nat → Nat} {n : Nat} (h : ∀ k, k < n → f k = 0) : fb_sm f n = 0 := by
  rw [fb_sm_cong h, fb_sm_const]
  exact Nat.mul_zero n
theorem ct_sm (p : Nat → Bool) : ∀ n, fb_ct p n = fb_sm (fun i => if p i = true then 1 else 0) n
  | 0 => rfl
  | n + 1 => by rw [fb_ct_succ, fb_sm_succ, ct_sm p n]
theorem sm_mul (f : Nat → Nat) (c : Nat) : ∀ n, fb_sm f n * c = fb_sm (fun k => f k * c) n
  | 0 => Nat.zero_mul c
  | n + 1 => by rw [fb_sm_succ, fb_sm_succ, Nat.add_mul, sm_mul f c n]
theorem sm_swap (f : Nat → Nat → Nat) (m : Nat) : ∀ n, fb_sm (fun q => fb_sm (fun i => f q i) m) n = fb_sm (fun i => fb_sm (fun q => f q i) n) m
  | 0 => by
    symm
    exact sm_zero (fun _ _ => rfl)
  | n + 1 => by
    rw [fb_sm_succ, sm_swap f m n, ← fb_sm_add]
    rfl
/-- Σq #(a ∩ l q) · t q = Σi [a i] Σq [l q i] t q -/
theorem sm_cost (a : Nat → Bool) (l : Nat → Nat → Bool) (t : Nat → Nat) (m n : Nat) : fb_sm (fun q => fb_ct (fun i => a i && l q i) m * t q) n = fb_sm (fun i => if a i = true then fb_sm (fun q => if l q i = true then t q else 0) n else 0) m := by
  rw [← fb_sm_cong (f := fun q => fb_sm (fun i => if (a i && l q i) = true then t q else 0) m)]
  · rw [sm_swap]
    refine fb_sm_cong (fun i _ => ?_)
    by_cases h : a i = true
    · rw [if_pos h]
      simp only [h, Bool.true_and]
    · rw [if_neg h]
      exact sm_zero (fun q _ => by simp [h])
  · intro q _
    rw [ct_sm, sm_mul]
    refine fb_sm_cong (fun i _ => ?_)
    by_cases h : (a i && l q i) = true
    · rw [if_pos h, if_pos h, Nat.one_mul]
    · rw [if_neg h, if_neg h, Nat.zero_mul]
theorem sm_cut {f : Nat → Nat} {m n : Nat} (h : m ≤ n) (h2 : ∀ k, m ≤ k → k < n → f k = 0) : fb_sm f n = fb_sm f m := by
  obtain ⟨d, rfl⟩ : ∃ d, n = m + d := ⟨n - m, by omega⟩
  rw [fb_sm_split, sm_zero (f := fun k => f (m + k)) (fun k hk => h2 (m + k) (by omega) (by omega)), Nat.add_zero]
theorem ct_cut {p : Nat → Bool} {m n : Nat} (h : m ≤ n) (h2 : ∀ k, m ≤ k → k < n → p k = false) : fb_ct p n = fb_ct p m := by
  obtain ⟨d, rfl⟩ : ∃ d, n = m + d := ⟨n - m, by omega⟩
  rw [fb_ct_split, fb_ct_zero.mpr (fun k hk => h2 (m + k) (by omega) (by omega)), Nat.add_zero]
