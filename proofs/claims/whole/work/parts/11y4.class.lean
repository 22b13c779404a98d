/-! order: what the class answers is the first least row -/
theorem ct_ins {s g p : Nat} (hp : p < 6) (hi : insB s g p = true) : fb_ct (fun q => insB s (g ||| 2 ^ p) q) 6 + 1 = fb_ct (fun q => insB s g q) 6 := by
  have h := fb_ct_upd (fun q => insB s g q) false (i := p) (n := 6) hp
  rw [if_pos hi, if_neg (by decide)] at h
  have e : fb_ct (fun q => insB s (g ||| 2 ^ p) q) 6 = fb_ct (fun k => if k = p then false else insB s g k) 6 := fb_ct_cong (fun q _ => ins_or hp)
  rw [e]
  exact h
theorem cls {td : XTd} {to : Nat → Int32} {dy : XDy} {st lb : Nat → Int32} {s a c : Nat} (hT : toldR td to) (hD : dayX (pN td) dy st) (hc : dy.2.2.2 = nI c) (hc9 : c ≤ 9) (ha : a < 60) (hs : s < 64) (hP : ∀ p, s.testBit p = true → p < pN td) (tab : ∀ j, j < 64 → (∀ i, i < 6 → j.testBit i = true → s.testBit i = true) → lb j = if j = s then nI 0 else f_X1_leastOfRest td dy lb (nI s) (nI j) (nI a)) : ∀ m g, g < 64 → (∀ i, i < 6 → g.testBit i = true → s.testBit i = true) → fb_ct (fun p => insB s g p) 6 = m → (lb g = -1 ∧ ∀ r, r < 6 ^ m → oV s (oS td to c a) (oC td dy) m g r = none) ∨ ∃ v r, v ≤ 2400 * m ∧ lb g = nI v ∧ isBest (oV s (oS td to c a) (oC td dy) m g) (6 ^ m) v r ∧ ∀ n k x, L_X1_placeInOrder_9 td dy lb (nI s) (nI a) (n + 1) k x (nI g) = if n < m then nI ((r / 6 ^ (m - 1 - n)) % 6) else -1 := by
  have h6 : pN td ≤ 6 := hT.1
  intro m
  induction m with
  | zero =>
    intro g hg hsub hct
    have hz := fb_ct_zero.mp hct
    have e : g = s := (mask_ext hs hg (fun i hi => by
      have h1 := hz i hi
      have h2 := hsub i hi
      unfold insB at h1
      cases e1 : s.testBit i <;> cases e2 : g.testBit i
      · rfl
      · rw [e1, e2] at h2
        exact absurd (h2 rfl) (by decide)
      · rw [e1, e2] at h1
        exact absurd h1 (by decide)
      · rfl)).symm
    refine Or.inr ⟨0, 0, by omega, ?_, ⟨by decide, ?_, fun _ _ _ _ => Nat.zero_le _, fun q _ hq => absurd hq (Nat.not_lt_zero q)⟩, fun n k x => ?_⟩
    · rw [tab g hg hsub, if_pos e]
    · rw [oV, if_pos e]
    · rw [L_X1_placeInOrder_9, nx_of hg, nx_none hs hg (fun p hp => hz p hp) _ _ (by omega), if_pos rfl, if_neg (by omega)]
  | succ m ih =>
    intro g hg hsub hct
    have hm6 : m < 6 := by
      have := fb_ct_le (fun p => insB s g p) 6
      omega
    have hne : ¬ g = s := fun e => by
      rw [fb_ct_zero.mpr (fun p _ => by subst e; unfold insB; cases g.testBit p <;> rfl)] at hct
      omega
    have hih : ∀ p, p < 6 → insB s g p = true → _ := fun p hp hi => ih (g ||| 2 ^ p) (or_bit g hg p hp).2.1 (fun i hi6 hb => by
      rw [Nat.testBit_or, Nat.testBit_two_pow] at hb
      by_cases e : p = i
      · rw [← e]
        exact (ins_tb hi).1
      · rw [decide_eq_false e, Bool.or_false] at hb
        exact hsub i hi6 hb) (by have := ct_ins hp hi; omega)
    have hl : ∀ p, p < 6 → insB s g p = true → lb (g ||| 2 ^ p) = -1 ∨ ∃ v, v ≤ 100000 ∧ lb (g ||| 2 ^ p) = nI v := fun p hp hi => by
      rcases hih p hp hi with ⟨h1, _⟩ | ⟨v, r, h1, h2, _⟩
      · exact Or.inl h1
      · exact Or.inr ⟨v, by omega, h2⟩
    have hlb := tab g hg hsub
    rw [if_neg hne] at hlb
    unfold f_X1_leastOfRest at hlb
    rw [behind_num hT hc hg] at hlb
    have hS := oS_lt (g := g) hT hc9 ha
    by_cases hS60 : oS td to c a g < 60
    · rw [if_pos (nI_le (by omega) (by decide))] at hlb
      have hmin := lor_loop (a := a) hT hD hc hs hg hl (pN td) 0 (-1) (by omega) (Or.inl ⟨rfl, fun p hp => absurd hp (Nat.not_lt_zero p)⟩)
      rw [Nat.zero_add] at hmin
      have hlb2 : lb g = L_X1_leastOfRest_23 td dy lb (nI s) (nI g) (nI a) (pN td) 0 (-1) := hlb
      rw [← hlb2] at hmin
      have hu : ∀ p, p < 6 → insB s g p = true → (uO td dy lb s g (oS td to c a g) p = none ∧ ∀ r, r < 6 ^ m → oV s (oS td to c a) (oC td dy) m (g ||| 2 ^ p) r = none) ∨ (∃ vp rp, uO td dy lb s g (oS td to c a g) p = some (oC td dy p (oS td to c a g) + vp) ∧ isBest (oV s (oS td to c a) (oC td dy) m (g ||| 2 ^ p)) (6 ^ m) vp rp) := fun p hp hi => by
        unfold uO
        rw [if_pos hi]
        rcases hih p hp hi with ⟨h1, h2⟩ | ⟨v, r, h1, h2, h3, _⟩
        · rw [if_pos h1]
          exact Or.inl ⟨rfl, h2⟩
        · rw [h2, if_neg (ge0 (by omega)).2.1, nI_clamp (by omega)]
          exact Or.inr ⟨v, r, rfl, h3⟩
      rcases hmin with ⟨h1, h2⟩ | ⟨v, hv, h1, ⟨p0, hp0, hu0⟩, h3⟩
      · refine Or.inl ⟨h1, fun r hr => oV_none (fun p hp hi => ?_) hr⟩
        rcases hu p hp hi with ⟨_, z⟩ | ⟨vp, rp, z, _⟩
        · exact z
        · rw [h2 p (hP p (ins_tb hi).1)] at z
          cases z
      · obtain ⟨d, ⟨hd1, hd2⟩, hd3⟩ := pk_least (fun p => p < pN td ∧ uO td dy lb s g (oS td to c a g) p = some v) ⟨p0, hp0, hu0⟩
        have hdi : insB s g d = true := by
          cases e : insB s g d
          · unfold uO at hd2
            rw [e, if_neg (by decide)] at hd2
            cases hd2
          · rfl
        have hfst : ∀ p, p < d → uO td dy lb s g (oS td to c a g) p ≠ some v := fun p hp e => hd3 p hp ⟨by omega, e⟩
        rcases hih d (by omega) hdi with ⟨z1, _⟩ | ⟨vd, rd, z1, z2, z3, z4⟩
        · unfold uO at hd2
          rw [if_pos hdi, if_pos z1] at hd2
          cases hd2
        · have hvd : v = oC td dy d (oS td to c a g) + vd := by
            unfold uO at hd2
            rw [if_pos hdi, z2, if_neg (ge0 (by omega)).2.1, nI_clamp (by omega)] at hd2
            exact (Option.some.inj hd2).symm
          have hoc := (oC_num hT hD hd1 (oS td to c a g)).2
          refine Or.inr ⟨v, rd + d * 6 ^ m, by omega, h1, best_step hS60 hu (by omega) hdi (fun p w hp hi hw => h3 p w (hP p (ins_tb hi).1) hw) (fun p hp _ => hfst p hp) z3 hvd, fun n k x => ?_⟩
          have hnx : f_X1_nextInOrder td dy lb (nI s) (nI g) (nI a) = nI d := by
            rw [nx_of hg]
            exact nx_loop hT hD hc hs hg hl hv h1 hd2 (pN td) 0 (by omega) (Nat.zero_le d) (by omega) (fun p _ hp => hfst p hp)
          rw [L_X1_placeInOrder_9, hnx, if_neg (ge0 (by omega)).2.1, (or_bit g hg d (by omega)).1]
          cases n with
          | zero =>
            rw [L_X1_placeInOrder_9, if_pos (by omega), show m + 1 - 1 - 0 = m by omega, dig_first (by omega) z3.1 rfl]
          | succ n =>
            rw [z4 n (k + 1) (nI d)]
            by_cases e : n < m
            · rw [if_pos e, if_pos (by omega), show m + 1 - 1 - (n + 1) = m - 1 - n by omega, dig_rest e z3.1 rfl]
            · rw [if_neg e, if_neg (by omega)]
    · rw [if_neg (nI_ge (by omega) (by omega))] at hlb
      refine Or.inl ⟨hlb, fun r _ => ?_⟩
      rw [oV, if_neg (fun z => hS60 z.2)]
