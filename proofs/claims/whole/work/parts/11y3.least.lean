/-! order: the table holds the least rows -/
def minS (u : Nat → Option Nat) (k : Nat) (x : Int32) : Prop := (x = -1 ∧ ∀ p, p < k → u p = none) ∨ ∃ v, v < 2 ^ 30 ∧ x = nI v ∧ (∃ p, p < k ∧ u p = some v) ∧ ∀ p w, p < k → u p = some w → v ≤ w
theorem minS_none {u : Nat → Option Nat} {k : Nat} {x : Int32} (h : minS u k x) (hk : u k = none) : minS u (k + 1) x := by
  rcases h with ⟨a, b⟩ | ⟨v, h0, a, ⟨p, hp, b⟩, c⟩
  · refine Or.inl ⟨a, fun p hp => ?_⟩
    by_cases e : p = k
    · rw [e]; exact hk
    · exact b p (by omega)
  · refine Or.inr ⟨v, h0, a, ⟨p, by omega, b⟩, fun q w hq hw => ?_⟩
    by_cases e : q = k
    · rw [e, hk] at hw
      cases hw
    · exact c q w (by omega) hw
theorem minS_less {u : Nat → Option Nat} {k y : Nat} {x : Int32} (h : minS u k x) (hy : y < 2 ^ 30) (hk : u k = some y) (hx : x = -1 ∨ ¬ x ≤ nI y) : minS u (k + 1) (nI y) := by
  refine Or.inr ⟨y, hy, rfl, ⟨k, by omega, hk⟩, fun q w hq hw => ?_⟩
  by_cases e : q = k
  · rw [e, hk] at hw
    cases hw
    exact Nat.le_refl _
  · rcases h with ⟨a, b⟩ | ⟨v, h0, a, ⟨p, hp, b⟩, c⟩
    · rw [b q (by omega)] at hw
      cases hw
    · have h1 := c q w (by omega) hw
      rcases hx with hx | hx
      · rw [a] at hx
        exact absurd hx (ge0 (by omega)).2.1
      · rw [a, nI_leI (by omega) (by omega)] at hx
        omega
theorem minS_same {u : Nat → Option Nat} {k y : Nat} {x : Int32} (h : minS u k x) (hy : y < 2 ^ 30) (hk : u k = some y) (hx1 : ¬ x = -1) (hx : x ≤ nI y) : minS u (k + 1) x := by
  rcases h with ⟨a, b⟩ | ⟨v, h0, a, ⟨p, hp, b⟩, c⟩
  · exact absurd a hx1
  · rw [a, nI_leI (by omega) (by omega)] at hx
    refine Or.inr ⟨v, h0, a, ⟨p, by omega, b⟩, fun q w hq hw => ?_⟩
    by_cases e : q = k
    · rw [e, hk] at hw
      cases hw
      exact hx
    · exact c q w (by omega) hw
/-- what going on with p costs by the table -/
def uO (td : XTd) (dy : XDy) (lb : Nat → Int32) (s g S p : Nat) : Option Nat := if insB s g p = true then (if lb (g ||| 2 ^ p) = -1 then none else some (oC td dy p S + (lb (g ||| 2 ^ p)).toNatClampNeg)) else none
section OR
variable {td : XTd} {to : Nat → Int32} {dy : XDy} {st lb : Nat → Int32} {s g a c : Nat}
theorem lw_u (hT : toldR td to) (hD : dayX (pN td) dy st) (hg : g < 64) {S p : Nat} (hp : p < pN td) (hi : insB s g p = true) (hl : lb (g ||| 2 ^ p) = -1 ∨ ∃ v, v ≤ 100000 ∧ lb (g ||| 2 ^ p) = nI v) : (uO td dy lb s g S p = none ∧ f_X1_leastWithNext td dy lb (nI g) (nI p) (nI S) = -1) ∨ ∃ y, y < 2 ^ 30 ∧ uO td dy lb s g S p = some y ∧ f_X1_leastWithNext td dy lb (nI g) (nI p) (nI S) = nI y := by
  rw [lw_num hT hD lb hg hp]
  unfold uO
  rw [if_pos hi]
  rcases hl with hl | ⟨v, hv, hl⟩
  · rw [if_pos hl, if_pos hl]
    exact Or.inl ⟨rfl, rfl⟩
  · have := (oC_num hT hD hp S).2
    rw [hl, if_neg (ge0 (by omega)).2.1, if_neg (ge0 (by omega)).2.1, nI_clamp (by omega), nI_add]
    exact Or.inr ⟨_, by omega, rfl, rfl⟩
theorem lor_loop (hT : toldR td to) (hD : dayX (pN td) dy st) (hc : dy.2.2.2 = nI c) (hs : s < 64) (hg : g < 64) (hl : ∀ p, p < 6 → insB s g p = true → lb (g ||| 2 ^ p) = -1 ∨ ∃ v, v ≤ 100000 ∧ lb (g ||| 2 ^ p) = nI v) : ∀ n k x, k + n ≤ pN td → minS (uO td dy lb s g (oS td to c a g)) k x → minS (uO td dy lb s g (oS td to c a g)) (k + n) (L_X1_leastOfRest_23 td dy lb (nI s) (nI g) (nI a) n k x) := by
  have h6 : pN td ≤ 6 := hT.1
  intro n
  induction n with
  | zero => exact fun k x _ h => h
  | succ n ih =>
    intro k x hk h
    rw [L_X1_leastOfRest_23, behind_num hT hc hg, show k + (n + 1) = k + 1 + n by omega]
    by_cases z : insB s g k = false
    · rw [if_pos ((ins_iff hs hg (by omega)).mpr z)]
      refine ih (k + 1) x (by omega) (minS_none h ?_)
      unfold uO
      rw [z, if_neg (by decide)]
    · have zi := Bool.not_eq_false _ |>.mp z
      rw [if_neg (fun y => z ((ins_iff hs hg (by omega)).mp y))]
      rcases lw_u (S := oS td to c a g) hT hD hg (p := k) (by omega) zi (hl k (by omega) zi) with ⟨u1, u2⟩ | ⟨y, hy, u1, u2⟩
      · rw [if_pos u2]
        exact ih (k + 1) x (by omega) (minS_none h u1)
      · rw [u2, if_neg (ge0 (by omega)).2.1]
        by_cases e : x = -1
        · rw [if_pos e]
          exact ih (k + 1) _ (by omega) (minS_less h hy u1 (Or.inl e))
        · rw [if_neg e]
          by_cases e2 : x ≤ nI y
          · rw [if_pos e2]
            exact ih (k + 1) x (by omega) (minS_same h hy u1 e e2)
          · rw [if_neg e2]
            exact ih (k + 1) _ (by omega) (minS_less h hy u1 (Or.inr e2))
theorem nx_loop (hT : toldR td to) (hD : dayX (pN td) dy st) (hc : dy.2.2.2 = nI c) (hs : s < 64) (hg : g < 64) (hl : ∀ p, p < 6 → insB s g p = true → lb (g ||| 2 ^ p) = -1 ∨ ∃ v, v ≤ 100000 ∧ lb (g ||| 2 ^ p) = nI v) {v d : Nat} (hv : v < 2 ^ 30) (hlb : lb g = nI v) (hd : uO td dy lb s g (oS td to c a g) d = some v) : ∀ n k, k + n ≤ pN td → k ≤ d → d < k + n → (∀ p, k ≤ p → p < d → uO td dy lb s g (oS td to c a g) p ≠ some v) → L_X1_nextInOrder_23 td dy lb (nI s) (nI g) (nI a) n k = nI d := by
  have h6 : pN td ≤ 6 := hT.1
  intro n
  induction n with
  | zero => exact fun k _ h1 h2 => by omega
  | succ n ih =>
    intro k hk h1 h2 hf
    rw [L_X1_nextInOrder_23, behind_num hT hc hg, nI_clamp (by omega), hlb]
    by_cases z : insB s g k = false
    · rw [if_pos ((ins_iff hs hg (by omega)).mpr z), if_pos nI_0]
      have : k ≠ d := fun e => by
        rw [← e] at hd
        unfold uO at hd
        rw [z, if_neg (by decide)] at hd
        cases hd
      exact ih (k + 1) (by omega) (by omega) (by omega) (fun p q1 q2 => hf p (by omega) q2)
    · have zi := Bool.not_eq_false _ |>.mp z
      rw [if_neg (fun y => z ((ins_iff hs hg (by omega)).mp y)), if_neg (show ¬ nI 1 = 0 by decide)]
      by_cases e : k = d
      · rcases lw_u (S := oS td to c a g) hT hD hg (p := k) (by omega) zi (hl k (by omega) zi) with ⟨u1, u2⟩ | ⟨y, hy, u1, u2⟩
        · rw [e, hd] at u1
          cases u1
        · rw [e, hd] at u1
          cases u1
          rw [u2, if_pos rfl, e]
      · have hne := hf k (Nat.le_refl k) (by omega)
        rcases lw_u (S := oS td to c a g) hT hD hg (p := k) (by omega) zi (hl k (by omega) zi) with ⟨u1, u2⟩ | ⟨y, hy, u1, u2⟩
        · rw [u2, if_neg (fun q => (ge0 (v := v) (by omega)).2.1 q.symm)]
          exact ih (k + 1) (by omega) (by omega) (by omega) (fun p q1 q2 => hf p (by omega) q2)
        · rw [u2, if_neg (fun q => hne (by rw [u1, (nI_eq (by omega) (by omega)).mp q]))]
          exact ih (k + 1) (by omega) (by omega) (by omega) (fun p q1 q2 => hf p (by omega) q2)
theorem nx_none (hs : s < 64) (hg : g < 64) (h : ∀ p, p < 6 → insB s g p = false) : ∀ n k, k + n ≤ 6 → L_X1_nextInOrder_23 td dy lb (nI s) (nI g) (nI a) n k = -1 := by
  intro n
  induction n with
  | zero => exact fun _ _ => rfl
  | succ n ih =>
    intro k hk
    rw [L_X1_nextInOrder_23, if_pos ((ins_iff hs hg (by omega)).mpr (h k (by omega))), if_pos nI_0]
    exact ih (k + 1) (by omega)
theorem nx_of (hg : g < 64) : f_X1_nextInOrder td dy lb (nI s) (nI g) (nI a) = L_X1_nextInOrder_23 td dy lb (nI s) (nI g) (nI a) (pN td) 0 := by
  unfold f_X1_nextInOrder
  rw [if_neg (nI_pos (by omega)), if_pos (nI_lt hg (by decide))]
end OR
theorem mask_ext {s g : Nat} (hs : s < 64) (hg : g < 64) (h : ∀ i, i < 6 → s.testBit i = g.testBit i) : s = g := by
  apply Nat.eq_of_testBit_eq
  intro i
  by_cases hi : i < 6
  · exact h i hi
  · have h64 : (64 : Nat) ≤ 2 ^ i := Nat.le_trans (show 64 ≤ 2 ^ 6 by decide) (Nat.pow_le_pow_right (by decide) (by omega))
    rw [Nat.testBit_lt_two_pow (Nat.lt_of_lt_of_le hs h64), Nat.testBit_lt_two_pow (Nat.lt_of_lt_of_le hg h64)]
