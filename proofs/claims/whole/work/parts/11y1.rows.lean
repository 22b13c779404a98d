/-! order: the least row, by digits to the base 6 -/
theorem p6 : ∀ m, 0 < 6 ^ m
  | 0 => by decide
  | m + 1 => by
    rw [Nat.pow_succ]
    have := p6 m
    omega
def insB (s g p : Nat) : Bool := s.testBit p && !g.testBit p
/-- what a row (its digits, m of them) costs behind those gone; none: it is no such row, or one cannot start -/
def oV (s : Nat) (S : Nat → Nat) (c : Nat → Nat → Nat) : Nat → Nat → Nat → Option Nat
  | 0, g, _ => if g = s then some 0 else none
  | m + 1, g, r => if insB s g (r / 6 ^ m) = true ∧ S g < 60 then (oV s S c m (g ||| 2 ^ (r / 6 ^ m)) (r % 6 ^ m)).map (fun x => c (r / 6 ^ m) (S g) + x) else none
def isBest (V : Nat → Option Nat) (R v r : Nat) : Prop := r < R ∧ V r = some v ∧ (∀ q w, q < R → V q = some w → v ≤ w) ∧ ∀ q w, q < r → V q = some w → v < w
theorem dig_lt {m r : Nat} (h : r < 6 ^ (m + 1)) : r / 6 ^ m < 6 ∧ r % 6 ^ m < 6 ^ m := by
  rw [Nat.pow_succ] at h
  exact ⟨Nat.div_lt_of_lt_mul h, Nat.mod_lt _ (p6 m)⟩
theorem oV_key {s g m : Nat} {S : Nat → Nat} {c : Nat → Nat → Nat} {q w : Nat} (h : oV s S c (m + 1) g q = some w) : ∃ x, insB s g (q / 6 ^ m) = true ∧ oV s S c m (g ||| 2 ^ (q / 6 ^ m)) (q % 6 ^ m) = some x ∧ w = c (q / 6 ^ m) (S g) + x := by
  rw [oV] at h
  by_cases z : insB s g (q / 6 ^ m) = true ∧ S g < 60
  · rw [if_pos z] at h
    obtain ⟨x, hx, e⟩ := Option.map_eq_some_iff.mp h
    exact ⟨x, z.1, hx, e.symm⟩
  · rw [if_neg z] at h
    exact absurd h (by intro y; cases y)
theorem oV_none {s g m : Nat} {S : Nat → Nat} {c : Nat → Nat → Nat} (h : ∀ p, p < 6 → insB s g p = true → ∀ r, r < 6 ^ m → oV s S c m (g ||| 2 ^ p) r = none) {r : Nat} (hr : r < 6 ^ (m + 1)) : oV s S c (m + 1) g r = none := by
  obtain ⟨h1, h2⟩ := dig_lt hr
  rw [oV]
  by_cases z : insB s g (r / 6 ^ m) = true ∧ S g < 60
  · rw [if_pos z, h _ h1 z.1 _ h2]
    rfl
  · rw [if_neg z]
theorem best_step {s g m v d vd rd : Nat} {S : Nat → Nat} {c : Nat → Nat → Nat} {u : Nat → Option Nat} (hS : S g < 60) (hu : ∀ p, p < 6 → insB s g p = true → (u p = none ∧ ∀ r, r < 6 ^ m → oV s S c m (g ||| 2 ^ p) r = none) ∨ (∃ vp rp, u p = some (c p (S g) + vp) ∧ isBest (oV s S c m (g ||| 2 ^ p)) (6 ^ m) vp rp)) (hd : d < 6) (hi : insB s g d = true) (hmin : ∀ p w, p < 6 → insB s g p = true → u p = some w → v ≤ w) (hfst : ∀ p, p < d → insB s g p = true → u p ≠ some v) (hb : isBest (oV s S c m (g ||| 2 ^ d)) (6 ^ m) vd rd) (hvd : v = c d (S g) + vd) : isBest (oV s S c (m + 1) g) (6 ^ (m + 1)) v (rd + d * 6 ^ m) := by
  have hp := p6 m
  obtain ⟨b1, b2, b3, b4⟩ := hb
  have e1 : (rd + d * 6 ^ m) / 6 ^ m = d := by rw [Nat.add_mul_div_right _ _ hp, Nat.div_eq_of_lt b1, Nat.zero_add]
  have e2 : (rd + d * 6 ^ m) % 6 ^ m = rd := by rw [Nat.add_mul_mod_self_right, Nat.mod_eq_of_lt b1]
  have h5 : d * 6 ^ m ≤ 5 * 6 ^ m := Nat.mul_le_mul_right _ (by omega)
  have hR : rd + d * 6 ^ m < 6 ^ (m + 1) := by
    rw [Nat.pow_succ]
    omega
  have hge : ∀ q w, q < 6 ^ (m + 1) → oV s S c (m + 1) g q = some w → ∃ x vp rp, insB s g (q / 6 ^ m) = true ∧ q / 6 ^ m < 6 ∧ oV s S c m (g ||| 2 ^ (q / 6 ^ m)) (q % 6 ^ m) = some x ∧ w = c (q / 6 ^ m) (S g) + x ∧ u (q / 6 ^ m) = some (c (q / 6 ^ m) (S g) + vp) ∧ isBest (oV s S c m (g ||| 2 ^ (q / 6 ^ m))) (6 ^ m) vp rp := by
    intro q w hq h
    obtain ⟨h1, h2⟩ := dig_lt hq
    obtain ⟨x, x1, x2, x3⟩ := oV_key h
    rcases hu _ h1 x1 with ⟨_, z⟩ | ⟨vp, rp, z1, z2⟩
    · rw [z _ h2] at x2
      cases x2
    · exact ⟨x, vp, rp, x1, h1, x2, x3, z1, z2⟩
  refine ⟨hR, ?_, fun q w hq h => ?_, fun q w hq h => ?_⟩
  · rw [oV, e1, e2, if_pos ⟨hi, hS⟩, b2, hvd]
    rfl
  · obtain ⟨x, vp, rp, x1, h1, x2, x3, x4, x5⟩ := hge q w hq h
    have y1 := hmin _ _ h1 x1 x4
    have y2 := x5.2.2.1 _ _ (dig_lt hq).2 x2
    omega
  · have hq6 : q < 6 ^ (m + 1) := by omega
    obtain ⟨x, vp, rp, x1, h1, x2, x3, x4, x5⟩ := hge q w hq6 h
    have y1 := hmin _ _ h1 x1 x4
    have y2 := x5.2.2.1 _ _ (dig_lt hq6).2 x2
    have y3 : q / 6 ^ m ≤ d := by
      have := Nat.div_le_div_right (c := 6 ^ m) (Nat.le_of_lt hq)
      rw [e1] at this
      exact this
    by_cases z : q / 6 ^ m = d
    · rw [z] at x2 x3
      have y4 := Nat.div_add_mod q (6 ^ m)
      rw [z, Nat.mul_comm] at y4
      have := b4 _ _ (by omega) x2
      omega
    · have y5 := hfst _ (by omega) x1
      rw [x4] at y5
      have : c (q / 6 ^ m) (S g) + vp ≠ v := fun y => y5 (by rw [y])
      omega
/-- digits, the first ahead -/
theorem dig_rest {m n r d rd : Nat} (hn : n < m) (h1 : rd < 6 ^ m) (hr : r = rd + d * 6 ^ m) : (r / 6 ^ (m - 1 - n)) % 6 = (rd / 6 ^ (m - 1 - n)) % 6 := by
  have e : 6 ^ m = 6 ^ (n + 1) * 6 ^ (m - 1 - n) := by
    rw [← Nat.pow_add]
    congr 1
    omega
  rw [hr, e, ← Nat.mul_assoc, Nat.add_mul_div_right _ _ (p6 _), Nat.pow_succ, ← Nat.mul_assoc, Nat.add_mul_mod_self_right]
theorem dig_first {m r d rd : Nat} (hd : d < 6) (h1 : rd < 6 ^ m) (hr : r = rd + d * 6 ^ m) : (r / 6 ^ m) % 6 = d := by
  rw [hr, Nat.add_mul_div_right _ _ (p6 m), Nat.div_eq_of_lt h1, Nat.zero_add, Nat.mod_eq_of_lt hd]
