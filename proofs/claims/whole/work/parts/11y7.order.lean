/-! order: both sides -/
theorem best_none {V : Nat → Option Nat} {k v q : Nat} (h : isBest V k v q) (hk : V k = none) : isBest V (k + 1) v q := by
  obtain ⟨a, b, c, d⟩ := h
  refine ⟨by omega, b, fun p w hp hw => ?_, d⟩
  by_cases e : p = k
  · rw [e, hk] at hw
    cases hw
  · exact c p w (by omega) hw
theorem best_ge {V : Nat → Option Nat} {k v q y : Nat} (h : isBest V k v q) (hk : V k = some y) (hy : v ≤ y) : isBest V (k + 1) v q := by
  obtain ⟨a, b, c, d⟩ := h
  refine ⟨by omega, b, fun p w hp hw => ?_, d⟩
  by_cases e : p = k
  · rw [e, hk] at hw
    cases hw
    exact hy
  · exact c p w (by omega) hw
theorem best_lt {V : Nat → Option Nat} {k v q y : Nat} (h : isBest V k v q) (hk : V k = some y) (hy : y < v) : isBest V (k + 1) y k := by
  obtain ⟨a, b, c, d⟩ := h
  refine ⟨by omega, hk, fun p w hp hw => ?_, fun p w hp hw => ?_⟩
  · by_cases e : p = k
    · rw [e, hk] at hw
      cases hw
      exact Nat.le_refl _
    · have := c p w (by omega) hw
      omega
  · have := c p w hp hw
    omega
theorem best_one {V : Nat → Option Nat} {k y : Nat} (h : ∀ q, q < k → V q = none) (hk : V k = some y) : isBest V (k + 1) y k := by
  refine ⟨by omega, hk, fun p w hp hw => ?_, fun p w hp hw => ?_⟩
  · by_cases e : p = k
    · rw [e, hk] at hw
      cases hw
      exact Nat.le_refl _
    · rw [h p (by omega)] at hw
      cases hw
  · rw [h p hp] at hw
    cases hw
theorem best_uni {V : Nat → Option Nat} {R v q v' q' : Nat} (h : isBest V R v q) (h' : isBest V R v' q') : v = v' ∧ q = q' := by
  obtain ⟨a, b, c, d⟩ := h
  obtain ⟨a', b', c', d'⟩ := h'
  have e1 := c q' v' a' b'
  have e2 := c' q v a b
  have e3 : ¬ q < q' := fun z => by
    have := d' q v z b
    omega
  have e4 : ¬ q' < q := fun z => by
    have := d q' v' z b'
    omega
  exact ⟨by omega, by omega⟩
def bestS (V : Nat → Option Nat) (k : Nat) (x7 x6 : Int32) : Prop := (x6 = -1 ∧ ∀ q, q < k → V q = none) ∨ ∃ v q, v < 2 ^ 30 ∧ x6 = nI q ∧ x7 = nI v ∧ isBest V k v q
def rowsOk (w : Nat → Int32) : Prop := ∀ j, j < 6 → (w j = nI (w j).toNatClampNeg ∧ (w j).toNatClampNeg < 6)
theorem ones_ct : ∀ s, s < 64 → mOnes s = fb_ct (fun i => s.testBit i) 6 := by decide +kernel
theorem pow_83 : ∀ n k x, L_X8_order_83 n k x = x * 6 ^ n
  | 0, k, x => by rw [L_X8_order_83, Nat.pow_zero, Nat.mul_one]
  | n + 1, k, x => by rw [L_X8_order_83, pow_83 n (k + 1), Nat.pow_succ, Nat.mul_assoc, Nat.mul_comm 6]
theorem pow_le6 {n : Nat} (h : n ≤ 6) : 6 ^ n ≤ 46656 := Nat.le_trans (Nat.pow_le_pow_right (by decide) h) (by decide)
section OL
variable {td : XTd} {to : Nat → Int32} {dy : XDy} {st : Nat → Int32} {s a c : Nat}
theorem order_loop (hT : toldR td to) (hD : dayX (pN td) dy st) (hc : dy.2.2.2 = nI c) (hc9 : c ≤ 9) (ha : a < 60) (hs : s < 64) (hP : ∀ p, s.testBit p = true → p < pN td) : ∀ n k x7 x6 w0 w1 w, k + n = 6 ^ mOnes s → bestS (oV s (oS td to c a) (oC td dy) (mOnes s) 0) k x7 x6 → rowsOk w0 → (∀ i, ¬ (60 ≤ i ∧ i < 66) → w i = st i) → bestS (oV s (oS td to c a) (oC td dy) (mOnes s) 0) (6 ^ mOnes s) (L_X8_order_112 to (nI s) (nI a) n k x7 x6 w0 w1 w).1 (L_X8_order_112 to (nI s) (nI a) n k x7 x6 w0 w1 w).2.1 ∧ rowsOk (L_X8_order_112 to (nI s) (nI a) n k x7 x6 w0 w1 w).2.2.1 ∧ (L_X8_order_112 to (nI s) (nI a) n k x7 x6 w0 w1 w).2.2.2.1 = w1 ∧ ∀ i, ¬ (60 ≤ i ∧ i < 66) → (L_X8_order_112 to (nI s) (nI a) n k x7 x6 w0 w1 w).2.2.2.2 i = st i := by
  have h6 : pN td ≤ 6 := hT.1
  have hN := ones_ct s hs
  have hN6 : mOnes s ≤ 6 := by
    rw [hN]
    exact fb_ct_le _ 6
  have hpw := pow_le6 hN6
  intro n
  induction n with
  | zero =>
    intro k x7 x6 w0 w1 w hk hb h0 hw
    rw [L_X8_order_112]
    rw [Nat.add_zero] at hk
    rw [hk] at hb
    exact ⟨hb, h0, rfl, hw⟩
  | succ n ih =>
    intro k x7 x6 w0 w1 w hk hb h0 hw
    have hiff := isOrder_iff (rw_ := (w0, w1)) (n := mOnes s) (r := k) hs
    have hro : rowsOk (f_X8_isOrder (w0, w1) k (nI s) (mOnes s)).2.1 := ro_isOrder (rw := (w0, w1)) h0
    have hrw : ∀ j, j < mOnes s → (f_X8_isOrder (w0, w1) k (nI s) (mOnes s)).2.1 j = nI (dgt (mOnes s) k j) := fun j hj => by
      show (L_X8_isOrder_11 (mOnes s) (nI 0) k w0).2.2 j = _
      rw [(row_loop (mOnes s) (nI 0) k w0).1 j, if_pos hj]
    have hr2 : (f_X8_isOrder (w0, w1) k (nI s) (mOnes s)).2.2 = w1 := rfl
    have hkm : k % 6 ^ mOnes s = k := Nat.mod_eq_of_lt (by omega)
    rw [L_X8_order_112, nI_clamp (by omega)]
    generalize f_X8_isOrder (w0, w1) k (nI s) (mOnes s) = R at hiff hro hrw hr2 ⊢
    by_cases z : gM (mOnes s) k (mOnes s) = s
    · rw [if_neg (fun y => hiff.mp y z)]
      have hn : fb_ct (fun i => (gM (mOnes s) k (mOnes s)).testBit i) 6 = mOnes s := by rw [z, ← hN]
      have hPd : ∀ j, j < mOnes s → dgt (mOnes s) k j < pN td := fun j hj => hP _ (by have := gM_has (n := mOnes s) (r := k) hj; rw [z] at this; exact this)
      obtain ⟨v1, v2, v3⟩ := row_val (N := mOnes s) (r := k) hT hD hn hPd hc hc9 ha hrw hw
      have hV : ((f_X8_rowFine to w R.2 (mOnes s) (nI a)).1 = -1 ∧ oV s (oS td to c a) (oC td dy) (mOnes s) 0 k = none) ∨ ∃ y, y < 2 ^ 30 ∧ (f_X8_rowFine to w R.2 (mOnes s) (nI a)).1 = nI y ∧ oV s (oS td to c a) (oC td dy) (mOnes s) 0 k = some y := by
        by_cases hx : ∃ j, j < mOnes s ∧ ¬ oS td to c a (gM (mOnes s) k j) < 60
        · refine Or.inl ⟨v1 hx, ?_⟩
          obtain ⟨j, hj, hj2⟩ := hx
          have := oV_stop (s := s) (n := mOnes s) (r := k) (S := oS td to c a) (c := oC td dy) (mOnes s) (Nat.le_refl _) ⟨j, by omega, hj, hj2⟩
          rw [Nat.sub_self, hkm, gM] at this
          exact this
        · have hall : ∀ j, j < mOnes s → oS td to c a (gM (mOnes s) k j) < 60 := fun j hj => Decidable.not_not.mp (fun y => hx ⟨j, hj, y⟩)
          have := oV_some (s := s) (n := mOnes s) (r := k) (S := oS td to c a) (c := oC td dy) z hn (mOnes s) (Nat.le_refl _) (fun j _ hj => hall j hj)
          rw [Nat.sub_self, hkm, gM] at this
          have e : fb_sm (fun t => oC td dy (dgt (mOnes s) k (0 + t)) (oS td to c a (gM (mOnes s) k (0 + t)))) (mOnes s) = fb_sm (fun t => oC td dy (dgt (mOnes s) k t) (oS td to c a (gM (mOnes s) k t))) (mOnes s) := fb_sm_cong (fun t _ => by rw [Nat.zero_add])
          rw [e] at this
          refine Or.inr ⟨_, ?_, v2 hall, this⟩
          have hbd := fb_sm_bound (f := fun t => oC td dy (dgt (mOnes s) k t) (oS td to c a (gM (mOnes s) k t))) (c := 2400) (n := mOnes s) (fun t ht => (oC_num hT hD (hPd t ht) _).2)
          have : mOnes s * 2400 ≤ 6 * 2400 := Nat.mul_le_mul_right _ hN6
          omega
      generalize f_X8_rowFine to w R.2 (mOnes s) (nI a) = F at v1 v2 v3 hV ⊢
      rcases hV with ⟨f1, f2⟩ | ⟨y, hy, f1, f2⟩
      · rw [if_pos (c := F.1 < 0) (by rw [f1]; decide), hr2]
        refine ih (k + 1) x7 x6 _ _ _ (by omega) ?_ hro v3
        rcases hb with ⟨b1, b2⟩ | ⟨v, q, b0, b1, b2, b3⟩
        · refine Or.inl ⟨b1, fun q hq => ?_⟩
          by_cases e : q = k
          · rw [e]; exact f2
          · exact b2 q (by omega)
        · exact Or.inr ⟨v, q, b0, b1, b2, best_none b3 f2⟩
      · rw [if_neg (c := F.1 < 0) (by rw [f1]; exact nI_pos (by omega)), hr2, f1]
        rcases hb with ⟨b1, b2⟩ | ⟨v, q, b0, b1, b2, b3⟩
        · rw [if_pos (show x6 < 0 by rw [b1]; decide)]
          exact ih (k + 1) _ _ _ _ _ (by omega) (Or.inr ⟨y, k, hy, rfl, rfl, best_one b2 f2⟩) hro v3
        · have hq : q < k := b3.1
          rw [if_neg (show ¬ x6 < 0 by rw [b1]; exact nI_pos (by omega)), b2]
          by_cases e : v ≤ y
          · rw [if_pos (nI_le e (by omega)), ← b2]
            exact ih (k + 1) _ _ _ _ _ (by omega) (Or.inr ⟨v, q, b0, b1, b2, best_ge b3 f2 e⟩) hro v3
          · rw [if_neg (nI_ge (by omega) (by omega))]
            exact ih (k + 1) _ _ _ _ _ (by omega) (Or.inr ⟨y, k, hy, rfl, rfl, best_lt b3 f2 (by omega)⟩) hro v3
    · rw [if_pos (hiff.mpr z), hr2]
      have hV : oV s (oS td to c a) (oC td dy) (mOnes s) 0 k = none := by
        cases e : oV s (oS td to c a) (oC td dy) (mOnes s) 0 k with
        | none => rfl
        | some v =>
          have := oV_valid (s := s) (n := mOnes s) (r := k) (S := oS td to c a) (c := oC td dy) (mOnes s) v (Nat.le_refl _) (by rw [Nat.sub_self, hkm, gM]; exact e)
          exact absurd this z
      refine ih (k + 1) x7 x6 _ _ _ (by omega) ?_ hro hw
      rcases hb with ⟨b1, b2⟩ | ⟨v, q, b0, b1, b2, b3⟩
      · refine Or.inl ⟨b1, fun q hq => ?_⟩
        by_cases e : q = k
        · rw [e]; exact hV
        · exact b2 q (by omega)
      · exact Or.inr ⟨v, q, b0, b1, b2, best_none b3 hV⟩
end OL
theorem ev_num : ∀ P, P < 7 → ((nI 1 <<< (nI P &&& 31)) - nI 1 = nI (2 ^ P - 1) ∧ (nI (2 ^ P - 1)).toBitVec.toNat = 2 ^ P - 1 ∧ (nI (2 ^ P - 1)).toInt64.toInt < ((2 ^ P : Nat) : Int) ∧ 2 ^ P ≤ 64) := by decide +kernel
theorem ev_in : ∀ P, P < 7 → ∀ s, s < 64 → s < 2 ^ P → (nI s &&& (nI (2 ^ P - 1) ^^^ (-1 : Int32)) = 0 ∧ ¬ f_X8_in (nI s).toInt64 (0 : Int64) (nI (2 ^ P - 1)).toInt64 = 0) := by decide +kernel
/-- a set of people, on both sides -/
theorem people_set {td : XTd} {to : Nat → Int32} (hT : toldR td to) (set : Int32) : ((set &&& ((f_X6_everybody td) ^^^ (-1 : Int32))) = 0 ∧ ¬ f_X8_arePeople to set = 0 ∧ ∃ s, s < 64 ∧ set = nI s ∧ ∀ p, s.testBit p = true → p < pN td) ∨ (¬ (set &&& ((f_X6_everybody td) ^^^ (-1 : Int32))) = 0 ∧ f_X8_arePeople to set = 0) := by
  obtain ⟨_, hm, h6⟩ := told_m hT
  obtain ⟨e1, e2, e3, e4⟩ := ev_num (pN td) (by omega)
  have ee : f_X6_everybody td = nI (2 ^ pN td - 1) := e1
  unfold f_X8_arePeople
  rw [ee, hm, e1]
  have hback : ∀ s, s < 2 ^ pN td → set = nI s → ((set &&& (nI (2 ^ pN td - 1) ^^^ (-1 : Int32))) = 0 ∧ ¬ f_X8_in set.toInt64 (0 : Int64) (nI (2 ^ pN td - 1)).toInt64 = 0 ∧ ∃ s, s < 64 ∧ set = nI s ∧ ∀ p, s.testBit p = true → p < pN td) := fun s hs e => by
    obtain ⟨g1, g2⟩ := ev_in (pN td) (by omega) s (by omega) hs
    rw [e]
    refine ⟨g1, g2, s, by omega, rfl, fun p hp => Nat.lt_of_not_le (fun z => ?_)⟩
    rw [Nat.testBit_lt_two_pow (Nat.lt_of_lt_of_le hs (Nat.pow_le_pow_right (by decide) z))] at hp
    exact absurd hp (by decide)
  by_cases h1 : (set &&& (nI (2 ^ pN td - 1) ^^^ (-1 : Int32))) = 0
  · have e5 : set &&& nI (2 ^ pN td - 1) = set := bI_ext (fun i hi => by
      have h2 := bI_ne0.mp h1 i hi
      rw [bI_and, bI_xor, bI_m1 hi, Bool.xor_true] at h2
      rw [bI_and]
      cases e6 : bI set i
      · rw [Bool.false_and]
      · rw [e6, Bool.true_and] at h2
        rw [Bool.true_and]
        simpa using h2)
    rw [pk_and set (pN td) e2] at e5
    exact Or.inl (hback _ (Nat.mod_lt _ (Nat.two_pow_pos _)) e5.symm)
  · refine Or.inr ⟨h1, Decidable.not_not.mp (fun z => ?_)⟩
    obtain ⟨s, hs, e⟩ := in_ex (N := 2 ^ pN td) e3 z
    exact h1 (hback s hs e).1
theorem order_ok {td : XTd} {to : Nat → Int32} {dy : XDy} {st : Nat → Int32} {rw_ : MKp} (hT : toldR td to) (hD : dayX (pN td) dy st) (hR : rowR rw_) (lb : Nat → Int32) (set aa wh : Int32) : (f_X7_order td dy lb set aa wh).1 = (f_X8_order to st rw_ set aa wh).1 ∧ dayX (pN td) dy (f_X8_order to st rw_ set aa wh).2.1 ∧ rowR (f_X8_order to st rw_ set aa wh).2.2 := by
  have h6 : pN td ≤ 6 := hT.1
  unfold f_X7_order f_X8_order
  rcases people_set hT set with ⟨p1, p2, s, hs, e, hP⟩ | ⟨p1, p2⟩
  · rw [if_pos p1, if_neg p2, within_in aa (nI 0) (nI 59) (lo := 0) (hi := 59) (by decide +kernel) (by decide +kernel), within_in wh (nI 0) (nI 6) (lo := 0) (hi := 6) (by decide +kernel) (by decide +kernel)]
    by_cases h1 : f_X8_in aa.toInt64 (0 : Int64) (59 : Int64) = 0
    · rw [if_pos h1, if_pos h1]
      exact ⟨rfl, hD, hR⟩
    · by_cases h2 : f_X8_in wh.toInt64 (0 : Int64) (6 : Int64) = 0
      · rw [if_neg h1, if_neg h1, if_pos h2, if_pos h2]
        exact ⟨rfl, hD, hR⟩
      · rw [if_neg h1, if_neg h1, if_neg h2, if_neg h2]
        subst e
        obtain ⟨a, ha, e⟩ := in_ex (N := 60) (by decide +kernel) h1
        subst e
        obtain ⟨w, hw, e⟩ := in_ex (N := 7) (by decide +kernel) h2
        subst e
        obtain ⟨_, c, hc9, hc⟩ := day_clk hD
        have hN := ones_ct s hs
        have hN6 : mOnes s ≤ 6 := by
          rw [hN]
          exact fb_ct_le _ 6
        have hpw := pow_le6 hN6
        have htab := (table_ok (a := a) hT hD hs 64 lb (Nat.le_refl _)).2
        have hcls := cls hT hD hc hc9 ha hs hP htab (mOnes s) 0 (by decide) (fun i _ h => by rw [Nat.zero_testBit] at h; exact absurd h (by decide)) (by
          rw [hN]
          exact fb_ct_cong (fun p _ => by unfold insB; rw [Nat.zero_testBit]; simp))
        have hmod := order_loop (a := a) hT hD hc hc9 ha hs hP (6 ^ mOnes s) 0 (nI 0) (-1) rw_.1 (L_X8_order_41 st 6 0 rw_.2) st (by omega) (Or.inl ⟨rfl, fun q hq => absurd hq (Nat.not_lt_zero q)⟩) hR (fun _ _ => rfl)
        have e83 : L_X8_order_83 (mOnes s) 0 1 = 6 ^ mOnes s := by rw [pow_83, Nat.one_mul]
        unfold f_X1_leastInOrder f_X1_placeInOrder
        rw [nI_clamp (n := s) (by omega), nI_clamp (n := w) (by omega), e83]
        generalize L_X1_leastInOrder_3 td dy (nI s) (nI a) 64 lb = LB at hcls ⊢
        generalize L_X8_order_112 to (nI s) (nI a) (6 ^ mOnes s) 0 (nI 0) (-1) rw_.1 (L_X8_order_41 st 6 0 rw_.2) st = T at hmod ⊢
        obtain ⟨m1, m2, m3, m4⟩ := hmod
        have hday : dayX (pN td) dy (L_X8_order_174 T 6 0 T.2.2.2.2) := by
          refine dayR_cong (fun _ _ => rfl) (fun _ _ => rfl) (fun j hj => ?_) rfl rfl hD
          rw [fill1 (F := L_X8_order_174 T) (o := 60) (g := fun k => T.2.2.2.1 k) (fun _ _ => rfl) (fun _ _ _ => rfl) 6 0 T.2.2.2.2 j, m3]
          by_cases z : 60 ≤ j ∧ j < 66
          · rw [if_pos (by omega), fill1 (F := L_X8_order_41 st) (o := 0) (g := fun k => st (60 + k)) (fun _ _ => rfl) (fun _ k _ => by rw [Nat.zero_add]; rfl) 6 0 rw_.2 (j - 60), if_pos (by omega), Nat.sub_zero, show 60 + (j - 60) = j by omega]
          · rw [if_neg (by omega)]
            exact m4 j z
        rcases hcls with ⟨c1, c2⟩ | ⟨v, r, c0, c1, c2, c3⟩
        · rcases m1 with ⟨n1, n2⟩ | ⟨v', q, n0, n1, n2, n3⟩
          · rw [if_pos (c := T.2.1 < 0) (by rw [n1]; decide)]
            dsimp only
            by_cases z : w = 0
            · rw [if_pos z]
              exact ⟨c1, hday, m2⟩
            · rw [if_neg z, if_pos c1]
              exact ⟨c1, hday, m2⟩
          · have := n3.2.1
            rw [c2 q n3.1] at this
            cases this
        · rcases m1 with ⟨n1, n2⟩ | ⟨v', q, n0, n1, n2, n3⟩
          · have := c2.2.1
            rw [n2 r c2.1] at this
            cases this
          · obtain ⟨u1, u2⟩ := best_uni c2 n3
            subst u1
            subst u2
            have hr := c2.1
            rw [if_neg (c := T.2.1 < 0) (by rw [n1]; exact nI_pos (by omega))]
            by_cases hwN : w ≤ mOnes s
            · rw [if_pos hwN]
              refine ⟨?_, hday, ro_isOrder (rw := (T.2.2.1, T.2.2.2.1)) (set := nI s) m2⟩
              dsimp only
              by_cases z : w = 0
              · rw [if_pos z, if_pos z, n2]
                exact c1
              · rw [if_neg z, if_neg z, if_neg (c := LB 0 = -1) (by rw [c1]; exact (ge0 (by omega)).2.1), n1, nI_clamp (by omega)]
                obtain ⟨w', rfl⟩ : ∃ w', w = w' + 1 := ⟨w - 1, by omega⟩
                dsimp only
                refine (c3 w' 0 (-1)).trans ?_
                rw [if_pos (by omega)]
                show _ = (L_X8_isOrder_11 (mOnes s) (nI 0) r T.2.2.1).2.2 (w' + 1 - 1)
                rw [(row_loop (mOnes s) (nI 0) r T.2.2.1).1, if_pos (by omega)]
                rfl
            · rw [if_neg hwN]
              refine ⟨?_, hday, m2⟩
              dsimp only
              rw [if_neg (show ¬ w = 0 by omega), if_neg (c := LB 0 = -1) (by rw [c1]; exact (ge0 (by omega)).2.1)]
              obtain ⟨w', rfl⟩ : ∃ w', w = w' + 1 := ⟨w - 1, by omega⟩
              dsimp only
              refine (c3 w' 0 (-1)).trans ?_
              rw [if_neg (by omega)]
  · rw [if_neg p1, if_pos p2]
    exact ⟨rfl, hD, hR⟩
