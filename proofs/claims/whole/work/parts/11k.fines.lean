/-! costs and fines -/
def clB (td : XTd) (to : Nat → Int32) (la : Nat → Int64) (p i : Nat) : Bool := !(bL td.2.2.2.2.2.2 i) && !(bL (la p) i) && (decide (¬ to (1 + p) = nI 2) || decide (i < 50))
def cN (td : XTd) (to : Nat → Int32) (la : Nat → Int64) (p i : Nat) : Nat := if clB td to la p i = true then fb_sm (fun q => if bL (la q) i = true then csN to q else 0) (pN td) else 0
theorem bL_all : ∀ i, i < 64 → bL (1152921504606846975 : Int64) i = decide (i < 60) := by decide +kernel
theorem bL_50 : ∀ i, i < 64 → bL (1125899906842623 : Int64) i = decide (i < 50) := by decide +kernel
theorem costly_bit {td : XTd} {to : Nat → Int32} {dy : XDy} (hT : toldR td to) {p i : Nat} (hp : p < pN td) (hi : i < 64) : bL (f_X1_costly td dy (nI p)) i = (decide (i < 60) && clB td to dy.2.1 p i) := by
  have h6 : pN td ≤ 6 := hT.1
  unfold f_X1_costly clB
  rw [told_kind hT hp, land_of (by omega)]
  by_cases h : to (1 + p) = nI 2
  · rw [if_pos h, bL_and, bL_and, bL_and, bL_xor, bL_xor, bL_all i hi, bL_50 i hi, bL_m1 hi]
    simp [h, Bool.and_assoc]
  · rw [if_neg h, bL_and, bL_and, bL_xor, bL_xor, bL_all i hi, bL_m1 hi]
    simp [h, Bool.and_assoc]
theorem cN_le {td : XTd} {to : Nat → Int32} {la : Nat → Int64} {ow : Nat → Int32} (hT : toldR td to) (ho : ownR (pN td) la ow) {p i : Nat} (hi : i < 60) : cN td to la p i ≤ 40 := by
  have h6 : pN td ≤ 6 := hT.1
  unfold cN
  by_cases h : clB td to la p i = true
  · rw [if_pos h]
    rcases ho.1 i hi with ⟨_, h2⟩ | ⟨q0, hq, _, h2⟩
    · rw [sm_zero (fun q hq => by rw [h2 q (by omega)]; rfl)]
      omega
    · rw [fb_sm_cong (g := fun q => if (decide (q = q0)) = true then csN to q else 0) (fun q hq => by rw [h2 q (by omega)]), sm_one hq]
      exact (told_toll hT hq).2.2
  · rw [if_neg h]
    omega
theorem costs_num {td : XTd} {to st : Nat → Int32} {la : Nat → Int64} (hT : toldR td to) (ho : ownR (pN td) la st) {p i : Nat} (hp : p < pN td) (hi : i < 60) : f_X8_costs to st p i = nI (cN td to la p i) := by
  have h6 : pN td ≤ 6 := hT.1
  have hcl := hT.2.2.2.2.1 i hi
  have hcl2 : (to (85 + i) = nI 1) ↔ bL td.2.2.2.2.2.2 i = true := by
    rw [hcl]
    cases bL td.2.2.2.2.2.2 i
    · exact ⟨fun h => absurd h (by decide), fun h => absurd h (by decide)⟩
    · exact ⟨fun _ => rfl, fun _ => rfl⟩
  unfold f_X8_costs cN
  rcases ho.1 i hi with ⟨h1, h2⟩ | ⟨q0, hq, h1, h2⟩
  · rw [sm_zero (fun q hq => by rw [h2 q (by omega)]; rfl), h1]
    have : (if to (85 + i) = nI 1 then nI 1 else if (-1 : Int32) < 0 then nI 1 else if (-1 : Int32) = nI p then nI 1 else if to (1 + p) = nI 2 then if i < 50 then nI 0 else nI 1 else nI 0) = nI 1 := by
      by_cases h : to (85 + i) = nI 1
      · rw [if_pos h]
      · rw [if_neg h, if_pos (by decide)]
    rw [this, if_neg (by decide)]
    split <;> rfl
  · rw [fb_sm_cong (g := fun q => if (decide (q = q0)) = true then csN to q else 0) (fun q hq => by rw [h2 q (by omega)]), sm_one hq, h1, nI_clamp (by omega), (told_toll hT hq).2.1]
    unfold clB
    rw [h2 p (by omega)]
    by_cases k1 : to (85 + i) = nI 1
    · rw [if_pos k1, if_neg (by decide), hcl2.mp k1]
      rfl
    · rw [if_neg k1, if_neg (nI_pos (by omega)), Bool.eq_false_iff.mpr (fun h => k1 (hcl2.mpr h))]
      by_cases k2 : p = q0
      · rw [if_pos (show nI q0 = nI p by rw [k2]), if_neg (show ¬ nI 1 = 0 by decide)]
        simp [k2]
      · rw [if_neg (fun h => k2 (((nI_eq (by omega) (by omega)).mp h).symm))]
        by_cases k3 : to (1 + p) = nI 2
        · by_cases k4 : i < 50
          · simp [k2, k3, k4, nI_0]
          · rw [if_pos k3, if_neg k4, if_neg (by decide)]
            simp [k3, k4]
        · simp [k2, k3, nI_0]
/-- what a row of seconds costs -/
theorem costOf_num {td : XTd} {to : Nat → Int32} {dy : XDy} (hT : toldR td to) {p : Nat} (hp : p < pN td) (sx : Int64) : f_X1_costOf td dy (nI p) sx = nI (fb_sm (fun i => if bL sx i = true then cN td to dy.2.1 p i else 0) 60) := by
  have h6 : pN td ≤ 6 := hT.1
  unfold f_X1_costOf
  rw [sumL0 (F := L_X1_costOf_15 td dy (nI p) sx) (g := fun q => (f_J13_bitCount_95d88 ((sx &&& (f_X1_costly td dy (nI p))) &&& (f_X0_landOf dy (nI q)))) * (f_X6_tollOf td (nI q))) (fun q => fb_ct (fun i => (bL sx i && (decide (i < 60) && clB td to dy.2.1 p i)) && bL (dy.2.1 q) i) 64 * csN to q) (fun _ _ => rfl) (fun _ _ _ => rfl)]
  · rw [sm_cost]
    congr 1
    rw [sm_cut (m := 60) (by decide) (fun k h1 h2 => by rw [if_neg]; simp; omega)]
    refine fb_sm_cong (fun i hi => ?_)
    unfold cN
    by_cases h : bL sx i = true
    · rw [if_pos h]
      simp only [h, hi, decide_true, Bool.true_and]
    · rw [if_neg h, if_neg (by simp [h])]
  · intro q hq
    have hq : q < pN td := hq
    rw [bitCount_eq, (told_toll hT hq).1, pk_mul]
    congr 2
    refine fb_ct_cong (fun i hi => ?_)
    rw [bL_and, bL_and, costly_bit hT hp hi, land_of (by omega)]
/-- the crowd ahead of p -/
theorem crowd_bit {td : XTd} {dy : XDy} {clk : Int32} {p i : Nat} (hp : p ≤ 6) : ∀ (n k : Nat) (x5 x3 : Int64), k ≤ p → p ≤ k + n → bL x3 i = decide (1 ≤ fb_ct (fun q => bL (f_X1_stands td (nI q) (f_X0_startOf dy (nI q)) clk) i) k) → bL x5 i = decide (2 ≤ fb_ct (fun q => bL (f_X1_stands td (nI q) (f_X0_startOf dy (nI q)) clk) i) k) → bL (L_X1_crowdAheadOf_8 td dy (nI p) clk n k x5 x3).1 i = decide (2 ≤ fb_ct (fun q => bL (f_X1_stands td (nI q) (f_X0_startOf dy (nI q)) clk) i) p)
  | 0, k, x5, x3, h1, h2, _, h4 => by
    have : k = p := by omega
    subst this
    rw [L_X1_crowdAheadOf_8, ite_self]
    exact h4
  | n + 1, k, x5, x3, h1, h2, h3, h4 => by
    rw [L_X1_crowdAheadOf_8]
    by_cases e : k = p
    · subst e
      rw [if_pos (nI_le (Nat.le_refl _) (by omega))]
      exact h4
    · rw [if_neg (nI_ge (by omega) (by omega))]
      refine crowd_bit hp n (k + 1) _ _ (by omega) (by omega) ?_ ?_
      · rw [bL_or, h3, fb_ct_succ]
        cases bL (f_X1_stands td (nI k) (f_X0_startOf dy (nI k)) clk) i <;> simp
      · rw [bL_or, bL_and, h3, h4, fb_ct_succ]
        cases bL (f_X1_stands td (nI k) (f_X0_startOf dy (nI k)) clk) i
        · simp
        · simp only [Bool.and_true, if_true, ← Bool.decide_or, decide_eq_decide]
          omega
