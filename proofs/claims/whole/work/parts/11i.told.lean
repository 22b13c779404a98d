/-! what is told, as numbers -/
abbrev pN (td : XTd) : Nat := td.2.2.2.2.2.1
def wkN (to : Nat → Int32) (p : Nat) : Nat := (f_X8_walkOf to p).toNatClampNeg
def stN (to : Nat → Int32) (p : Nat) : Nat := (to (13 + p)).toNatClampNeg
def csN (to : Nat → Int32) (p : Nat) : Nat := (f_X8_costOf to p).toNatClampNeg
theorem within_in (x a b : Int32) {lo hi : Int64} (h1 : lo = a.toInt64) (h2 : hi = b.toInt64) : f_X7_isWithin x a b = f_X8_in x.toInt64 lo hi := by
  unfold f_X7_isWithin f_X8_in
  simp only [lg_cmp_lt, lg_cmp_gt]
  rw [h1, h2]
  simp only [fa_wide_lt]
theorem knows_iff {td : XTd} (h6 : pN td ≤ 6) (pe : Int32) : ¬ f_X6_knows td pe = 0 ↔ ∃ p, p < pN td ∧ pe = nI p := by
  unfold f_X6_knows
  constructor
  · intro h
    by_cases h1 : pe < 0
    · rw [if_pos h1] at h
      exact absurd rfl h
    · rw [if_neg h1] at h
      obtain ⟨j, hj, e⟩ := nI_of h1
      subst e
      by_cases h2 : nI td.2.2.2.2.2.1 ≤ nI j
      · rw [if_pos h2] at h
        exact absurd rfl h
      · exact ⟨j, Nat.lt_of_not_le (fun q => h2 ((nI_leI (by show pN td < 2147483648; omega) hj).mpr q)), rfl⟩
  · rintro ⟨p, hp, e⟩
    subst e
    rw [if_neg (nI_pos (by omega)), if_neg (nI_ge hp (by show pN td < 2147483648; omega)), if_neg (nI_ge (by omega) (by decide))]
    decide
theorem person_iff {to : Nat → Int32} (h6 : mN to ≤ 6) (pe : Int32) : ¬ f_X8_isPerson to pe = 0 ↔ ∃ p, p < mN to ∧ pe = nI p := by
  constructor
  · intro h
    exact ⟨pe.toNatClampNeg, isP_lt h6 h, isP_nat h⟩
  · rintro ⟨p, hp, e⟩
    subst e
    unfold f_X8_isPerson
    rw [in_iff]
    intro q
    apply q
    have e1 : nI (mN to) - nI 1 = nI (mN to - 1) := by
      have : nI (mN to - 1) + nI 1 = nI (mN to) := by
        rw [nI_add]
        congr 1
        omega
      rw [← this, Int32.add_sub_cancel]
    rw [e1, nI_l (by omega), nI_l (by omega)]
    exact ⟨(lN_le (a := 0) (by decide) (by omega)).mpr (Nat.zero_le p), (lN_le (by omega) (by omega)).mpr (by omega)⟩
theorem told_m {td : XTd} {to : Nat → Int32} (hT : toldR td to) : to 0 = nI (mN to) ∧ mN to = pN td ∧ pN td ≤ 6 := by
  have h1 := hT.1
  have h2 := hT.2.1
  have h3 : mN to = pN td := by
    unfold mN
    rw [h2]
    exact nI_clamp (by omega)
  exact ⟨by rw [h3]; exact h2, h3, h1⟩
theorem knows_person {td : XTd} {to : Nat → Int32} (hT : toldR td to) (pe : Int32) : f_X6_knows td pe = 0 ↔ f_X8_isPerson to pe = 0 := by
  obtain ⟨_, h2, h3⟩ := told_m hT
  have a := knows_iff h3 pe
  have b := person_iff (by rw [h2]; exact h3) pe
  rw [h2] at b
  constructor
  · intro h
    exact Decidable.not_not.mp (fun q => absurd h (a.mpr (b.mp q)))
  · intro h
    exact Decidable.not_not.mp (fun q => absurd h (b.mpr (a.mp q)))
theorem i6 {p : Nat} (h : p < 6) : ¬ nI p < 0 ∧ ¬ nI 6 ≤ nI p ∧ nI p < nI 6 ∧ (nI p).toNatClampNeg = p := ⟨nI_pos (by omega), nI_ge h (by decide), nI_lt h (by decide), nI_clamp (by omega)⟩
theorem kind_of {td : XTd} {p : Nat} (h : p < 6) : f_X6_kindOf td (nI p) = td.1 p := by
  obtain ⟨a, b, c, d⟩ := i6 h
  rw [f_X6_kindOf, if_neg a, if_neg b, d]
theorem pace_of {td : XTd} {p : Nat} (h : p < 6) : f_X6_paceOf td (nI p) = td.2.1 p := by
  obtain ⟨a, b, c, d⟩ := i6 h
  rw [f_X6_paceOf, if_neg a, if_neg b, d]
theorem stay_of {td : XTd} {p : Nat} (h : p < 6) : f_X6_stayOf td (nI p) = td.2.2.1 p := by
  obtain ⟨a, b, c, d⟩ := i6 h
  rw [f_X6_stayOf, if_neg a, if_neg b, d]
theorem rent_of {td : XTd} {p : Nat} (h : p < 6) : f_X6_rentOf td (nI p) = td.2.2.2.1 p := by
  obtain ⟨a, b, c, d⟩ := i6 h
  rw [f_X6_rentOf, if_neg a, if_neg b, d]
theorem deed_of {td : XTd} {p : Nat} (h : p < 6) : f_X6_deedOf td (nI p) = td.2.2.2.2.1 p := by
  obtain ⟨a, b, c, d⟩ := i6 h
  rw [f_X6_deedOf, if_neg a, if_neg b, d]
theorem start_of {dy : XDy} {p : Nat} (h : p < 6) : f_X0_startOf dy (nI p) = dy.1 p := by
  obtain ⟨a, b, c, d⟩ := i6 h
  rw [f_X0_startOf, if_neg a, if_neg b, d]
theorem land_of {dy : XDy} {p : Nat} (h : p < 6) : f_X0_landOf dy (nI p) = dy.2.1 p := by
  obtain ⟨a, b, c, d⟩ := i6 h
  rw [f_X0_landOf, if_neg a, if_neg b, d]
theorem told_walk {td : XTd} {to : Nat → Int32} (hT : toldR td to) {p : Nat} (hp : p < pN td) : f_X6_walkOf td (nI p) = nI (wkN to p) ∧ f_X8_walkOf to p = nI (wkN to p) ∧ 1 ≤ wkN to p ∧ wkN to p ≤ 20 := by
  have h6 := hT.1
  obtain ⟨⟨e1, e2, e3, e4⟩, _, ⟨k, k1, k2, k3⟩, _⟩ := hT.2.2.1 p hp
  obtain ⟨a, b, c, d⟩ := i6 (p := p) (by show p < 6; have : pN td ≤ 6 := h6; omega)
  have e : f_X6_walkOf td (nI p) = f_X8_walkOf to p := by
    unfold f_X6_walkOf f_X8_walkOf
    rw [if_neg a, if_pos c, d, e1, e2]
  have hw : ∃ w, 1 ≤ w ∧ w ≤ 20 ∧ f_X8_walkOf to p = nI w := by
    unfold f_X8_walkOf
    rw [e2, k3]
    by_cases q : to (1 + p) = nI 1
    · rw [if_pos q]
      by_cases q2 : nI k ≤ nI 1
      · rw [if_pos q2]
        exact ⟨k, k1, k2, rfl⟩
      · rw [if_neg q2]
        have : ¬ k ≤ 1 := fun z => q2 (nI_le z (by decide))
        refine ⟨k - 1, by omega, by omega, ?_⟩
        have e5 : nI (k - 1) + nI 1 = nI k := by
          rw [nI_add]
          congr 1
          omega
        rw [← e5, Int32.add_sub_cancel]
    · rw [if_neg q]
      exact ⟨k, k1, k2, rfl⟩
  obtain ⟨w, w1, w2, w3⟩ := hw
  have e5 : wkN to p = w := by
    unfold wkN
    rw [w3]
    exact nI_clamp (by omega)
  rw [e5, e]
  exact ⟨w3, w3, w1, w2⟩
theorem told_stay {td : XTd} {to : Nat → Int32} (hT : toldR td to) {p : Nat} (hp : p < pN td) : f_X6_stayOf td (nI p) = nI (stN to p) ∧ to (13 + p) = nI (stN to p) ∧ 1 ≤ stN to p ∧ stN to p ≤ 6 := by
  have h6 : pN td ≤ 6 := hT.1
  obtain ⟨⟨e1, e2, e3, e4⟩, _, _, ⟨k, k1, k2, k3⟩, _⟩ := hT.2.2.1 p hp
  rw [stay_of (by omega)]
  have e5 : stN to p = k := by
    unfold stN
    rw [e3, k3]
    exact nI_clamp (by omega)
  rw [e5, e3]
  exact ⟨k3, k3, k1, k2⟩
theorem told_toll {td : XTd} {to : Nat → Int32} (hT : toldR td to) {p : Nat} (hp : p < pN td) : f_X6_tollOf td (nI p) = nI (csN to p) ∧ f_X8_costOf to p = nI (csN to p) ∧ csN to p ≤ 40 := by
  have h6 : pN td ≤ 6 := hT.1
  obtain ⟨⟨e1, e2, e3, e4⟩, _, _, _, ⟨k, k2, k3⟩⟩ := hT.2.2.1 p hp
  obtain ⟨a, b, c, d⟩ := i6 (p := p) (by omega)
  have e : f_X6_tollOf td (nI p) = f_X8_costOf to p := by
    unfold f_X6_tollOf f_X8_costOf
    rw [if_neg a, if_pos c, d, e1, e4]
  have hw : ∃ w, w ≤ 40 ∧ f_X8_costOf to p = nI w := by
    unfold f_X8_costOf
    rw [e4, k3]
    by_cases q : to (1 + p) = nI 3
    · rw [if_pos q, pk_mul]
      exact ⟨2 * k, by omega, rfl⟩
    · rw [if_neg q]
      exact ⟨k, by omega, rfl⟩
  obtain ⟨w, w2, w3⟩ := hw
  have e5 : csN to p = w := by
    unfold csN
    rw [w3]
    exact nI_clamp (by omega)
  rw [e5, e]
  exact ⟨w3, w3, w2⟩
theorem told_kind {td : XTd} {to : Nat → Int32} (hT : toldR td to) {p : Nat} (hp : p < pN td) : f_X6_kindOf td (nI p) = to (1 + p) := by
  have h6 : pN td ≤ 6 := hT.1
  rw [kind_of (by omega)]
  exact (hT.2.2.1 p hp).1.1.symm
