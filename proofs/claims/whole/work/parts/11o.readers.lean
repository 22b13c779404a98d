/-! free, reached, ropes, count -/
theorem exB_none {p : Nat → Bool} {n : Nat} (h : ∀ k, k < n → p k = false) : exB p n = false := by
  cases e : exB p n
  · rfl
  · obtain ⟨k, hk, h2⟩ := (exB_iff p n).mp e
    rw [h k hk] at h2
    exact absurd h2 (by decide)
theorem exB_one {p : Nat → Bool} {n i : Nat} (h : ∀ k, k < n → k ≠ i → p k = false) : exB p n = (decide (i < n) && p i) := by
  by_cases hi : i < n
  · rw [decide_eq_true hi, Bool.true_and]
    cases e : p i
    · exact exB_none (fun k hk => by
        by_cases z : k = i
        · rw [z]; exact e
        · exact h k hk z)
    · exact (exB_iff p n).mpr ⟨i, hi, e⟩
  · rw [decide_eq_false hi, Bool.false_and]
    exact exB_none (fun k hk => h k hk (by omega))
theorem exB_cut {p : Nat → Bool} {m n : Nat} (hmn : m ≤ n) (h : ∀ k, m ≤ k → k < n → p k = false) : exB p n = exB p m := by
  cases e : exB p n
  · symm
    refine exB_none (fun k hk => ?_)
    cases e2 : p k
    · rfl
    · rw [(exB_iff p n).mpr ⟨k, by omega, e2⟩] at e
      exact absurd e (by decide)
  · obtain ⟨k, hk, h2⟩ := (exB_iff p n).mp e
    by_cases z : k < m
    · exact ((exB_iff p m).mpr ⟨k, z, h2⟩).symm
    · rw [h k (by omega) hk] at h2
      exact absurd h2 (by decide)
theorem sm_pos {f : Nat → Nat} : ∀ {n : Nat}, fb_sm f n = 0 ↔ ∀ k, k < n → f k = 0
  | 0 => ⟨fun _ k hk => by omega, fun _ => rfl⟩
  | n + 1 => by
    rw [fb_sm_succ]
    constructor
    · intro h k hk
      by_cases e : k = n
      · rw [e]; omega
      · exact (sm_pos (n := n)).mp (by omega) k (by omega)
    · intro h
      rw [(sm_pos (n := n)).mpr (fun k hk => h k (by omega)), h n (by omega)]
theorem paid_bit {td : XTd} {to : Nat → Int32} {dy : XDy} (hT : toldR td to) (i : Nat) : bL (L_X1_freeFor_5 td dy (pN td) 0 0) i = exB (fun q => decide (0 < csN to q) && bL (dy.2.1 q) i) (pN td) := by
  have h6 : pN td ≤ 6 := hT.1
  rw [orL0 (F := L_X1_freeFor_5 td dy) (g := fun q => if f_X6_tollOf td (nI q) ≤ 0 then 0 else f_X0_landOf dy (nI q)) (fun _ _ => rfl) (fun n k x => ?_)]
  · refine exB_cong (fun q hq => ?_)
    (try dsimp only)
    rw [(told_toll hT hq).1, land_of (by omega)]
    by_cases h : 0 < csN to q
    · rw [if_neg (fun z => by have := (nI_np (by have := (told_toll hT hq).2.2; omega)).mp z; omega), decide_eq_true h, Bool.true_and]
    · rw [if_pos ((nI_np (by have := (told_toll hT hq).2.2; omega)).mpr (by omega)), decide_eq_false h, Bool.false_and, bL_0]
  · rw [L_X1_freeFor_5]
    by_cases h : f_X6_tollOf td (nI k) ≤ 0
    · rw [if_pos h, if_pos h, orL_0]
    · rw [if_neg h, if_neg h]
theorem free_eq {td : XTd} {to : Nat → Int32} {dy : XDy} {st : Nat → Int32} (hT : toldR td to) (hD : dayR (pN td) dy.1 dy.2.1 dy.2.2.1 dy.2.2.2 st) (pe : Int32) : f_X7_free td dy pe = f_X8_free to st pe := by
  have h6 : pN td ≤ 6 := hT.1
  unfold f_X7_free f_X8_free
  by_cases h : f_X6_knows td pe = 0
  · rw [if_pos h, if_pos ((knows_person hT pe).mp h)]
  · rw [if_neg h, if_neg (fun q => h ((knows_person hT pe).mpr q))]
    obtain ⟨p, hp, e⟩ := (knows_iff h6 pe).mp h
    have hp : p < pN td := hp
    subst e
    refine bL_ext (fun i hi => ?_)
    rw [orL0 (F := L_X8_free_17 to st (nI p)) (g := fun k => if f_X8_costs to st (nI p).toNatClampNeg k = 0 then (1 : Int64) <<< ((nI k).toInt64 &&& 63) else 0) (fun _ _ => rfl) (fun _ _ _ => rfl), nI_clamp (by omega)]
    rw [exB_one (i := i) (fun k hk hne => by
      (try dsimp only)
      by_cases z : f_X8_costs to st p k = 0
      · rw [if_pos z, bL_one k (by omega) i hi, decide_eq_false (fun y => hne y.symm)]
      · rw [if_neg z, bL_0])]
    unfold f_X1_freeFor
    rw [bL_and, bL_xor, bL_and, bL_all i hi, bL_m1 hi, paid_bit hT, costly_bit hT hp hi]
    by_cases hi6 : i < 60
    · rw [decide_eq_true hi6, Bool.true_and, Bool.true_and, Bool.true_and, costs_num hT hD.1 hp hi6]
      have hle := cN_le (p := p) hT hD.1 hi6
      have hz : nI (cN td to dy.2.1 p i) = 0 ↔ (exB (fun q => decide (0 < csN to q) && bL (dy.2.1 q) i) (pN td) && clB td to dy.2.1 p i) = false := by
        rw [nI_z (by omega)]
        unfold cN
        cases clB td to dy.2.1 p i
        · simp
        · rw [if_pos rfl, sm_pos, Bool.and_true]
          constructor
          · intro z
            refine exB_none (fun k hk => ?_)
            have := z k hk
            cases e : bL (dy.2.1 k) i
            · rw [Bool.and_false]
            · rw [e, if_pos rfl] at this
              rw [this]
              rfl
          · intro z k hk
            cases e : bL (dy.2.1 k) i
            · rfl
            · rw [if_pos rfl]
              refine Decidable.byContradiction (fun c => ?_)
              rw [(exB_iff _ _).mpr ⟨k, hk, by rw [e, decide_eq_true (by omega)]; rfl⟩] at z
              exact absurd z (by decide)
      by_cases c : nI (cN td to dy.2.1 p i) = 0
      · rw [if_pos c, hz.mp c, bL_one i hi i hi, decide_eq_true rfl]
        rfl
      · rw [if_neg c, bL_0, Bool.not_eq_false _ |>.mp (fun z => c (hz.mpr z))]
        rfl
    · rw [decide_eq_false hi6]
      rfl
theorem span59 {a : Nat} (ha : a < 60) (x : Int64) : x ||| f_X7_span (nI a) (nI 59) = L_X8_reached_22 (60 - a) a x := by
  refine bL_ext (fun i hi => ?_)
  rw [bL_or, span_bit (by omega) (by decide) hi, orL (F := L_X8_reached_22) (g := fun k => (1 : Int64) <<< ((nI k).toInt64 &&& 63)) (fun _ _ => rfl) (fun _ _ _ => rfl)]
  congr 1
  rw [exB_one (i := i - a) (fun k hk hne => by rw [bL_one _ (by omega) i hi, decide_eq_false (by omega)])]
  by_cases h : a ≤ i
  · by_cases h2 : i < 60
    · rw [bL_one _ (by omega) i hi, decide_eq_true (by omega), decide_eq_true (by omega), decide_eq_true (by omega)]
      rfl
    · rw [decide_eq_false (by omega), decide_eq_false (by omega)]
      rfl
  · rw [bL_one _ (by omega) i hi, decide_eq_false (by omega), decide_eq_false (p := i = a + (i - a)) (by omega), Bool.and_false]
theorem reached_eq {td : XTd} {to : Nat → Int32} {dy : XDy} {st : Nat → Int32} (hT : toldR td to) (hD : dayR (pN td) dy.1 dy.2.1 dy.2.2.1 dy.2.2.2 st) : f_X7_reached td dy = f_X8_reached to st := by
  obtain ⟨_, hm, h6⟩ := told_m hT
  obtain ⟨h5, c, hc, h7⟩ := day_clk hD
  unfold f_X7_reached f_X8_reached
  rw [hm]
  refine loop_cong (F := L_X7_reached_4 td dy) (G := L_X8_reached_4 to st) (f := fun k x => x ||| (f_X7_span ((f_X6_walkOf td (nI k)) + dy.2.2.2) (nI 59))) (g := fun k x => L_X8_reached_22 (60 - (f_X8_thereBy to st k (nI 0)).toNatClampNeg) ((f_X8_thereBy to st k (nI 0)).toNatClampNeg) x) (fun _ _ => rfl) (fun _ _ _ => rfl) (fun _ _ => rfl) (fun _ _ _ => rfl) _ _ _ (fun j y _ h2 => ?_)
  have hj : j < pN td := by
    have : j < 0 + pN td := h2
    omega
  obtain ⟨w1, w2, w3, w4⟩ := told_walk hT hj
  unfold f_X8_thereBy
  rw [w1, w2, h5, h7, nI_add, nI_add, nI_add, nI_clamp (by omega), Nat.zero_add]
  exact span59 (by omega) y
theorem ropes_z (to st : Nat → Int32) (nn : Int32) : ∀ (n k : Nat) (x : Int32), (L_X8_ropes_22 to st nn n k (nI 0) x).1 = 0
  | 0, _, _ => nI_0
  | n + 1, k, x => by
    rw [L_X8_ropes_22, if_pos nI_0]
    exact ropes_z to st nn n (k + 1) _
theorem ropes_loop {td : XTd} {to : Nat → Int32} {dy : XDy} {st : Nat → Int32} (hT : toldR td to) (hD : dayR (pN td) dy.1 dy.2.1 dy.2.2.1 dy.2.2.2 st) (nn : Int32) : ∀ (n k : Nat) (x : Int32), k + n ≤ pN td → L_X7_ropes_17 td dy nn n k x = (if (L_X8_ropes_22 to st nn n k (nI 1) x).1 = 0 then (-1 : Int32) else (L_X8_ropes_22 to st nn n k (nI 1) x).2)
  | 0, k, x, _ => by
    rw [L_X7_ropes_17, L_X8_ropes_22, if_neg (show ¬ nI 1 = 0 by decide)]
  | n + 1, k, x, h => by
    obtain ⟨e1, e2⟩ := wholeFine_eq hT hD (p := k) (by omega)
    rw [L_X7_ropes_17, L_X8_ropes_22, e1, e2, if_neg (show ¬ nI 1 = 0 by decide)]
    by_cases h1 : nI (FF td to dy.2.1 st k) / nI 2 ≤ nn
    · rw [if_pos h1, if_neg (c := nn < _) (Int32.not_lt.mpr h1)]
      by_cases h2 : nI (FF td to dy.2.1 st k) ≤ nn
      · rw [if_pos h2, if_pos h2, orI_0]
        exact ropes_loop hT hD nn n (k + 1) x (by omega)
      · rw [if_neg h2, if_neg h2]
        exact ropes_loop hT hD nn n (k + 1) _ (by omega)
    · rw [if_neg h1, if_pos (c := nn < _) (Int32.not_le.mp h1), if_pos (ropes_z to st nn n (k + 1) _)]
theorem ropes_eq {td : XTd} {to : Nat → Int32} {dy : XDy} {st : Nat → Int32} (hT : toldR td to) (hD : dayR (pN td) dy.1 dy.2.1 dy.2.2.1 dy.2.2.2 st) (nn : Int32) : f_X7_ropes td dy nn = f_X8_ropes to st nn := by
  obtain ⟨_, hm, h6⟩ := told_m hT
  unfold f_X7_ropes f_X8_ropes
  rw [within_in nn (nI 0) (nI 99) (lo := 0) (hi := 99) (by decide +kernel) (by decide +kernel), hm, ropes_loop hT hD nn (pN td) 0 (nI 0) (by omega)]
theorem cnt_go (to st : Nat → Int32) (i : Nat) : ∀ (n k : Nat) (a b c : Int32), bI (L_X8_count_10 to st n k a b c).2.2 i = (bI c i || exB (fun j => bI (if st (60 + (k + j)) < 0 then nI 0 else nI 1 <<< (nI (k + j) &&& 31)) i) n)
  | 0, k, a, b, c => by
    rw [L_X8_count_10]
    simp [exB]
  | n + 1, k, a, b, c => by
    rw [L_X8_count_10, cnt_go to st i n (k + 1), bI_or, exB_front (fun j => bI (if st (60 + j) < 0 then nI 0 else nI 1 <<< (nI j &&& 31)) i), Bool.or_assoc]
theorem cnt_ro (to st : Nat → Int32) (i : Nat) : ∀ (n k : Nat) (a b c : Int32), bI (L_X8_count_10 to st n k a b c).1 i = (bI a i || exB (fun j => bI (st (66 + (k + j)) <<< (nI (k + j) &&& 31)) i) n)
  | 0, k, a, b, c => by
    rw [L_X8_count_10]
    simp [exB]
  | n + 1, k, a, b, c => by
    rw [L_X8_count_10, cnt_ro to st i n (k + 1), bI_or, exB_front (fun j => bI (st (66 + j) <<< (nI j &&& 31)) i), Bool.or_assoc]
theorem cnt_fi {td : XTd} {to : Nat → Int32} {dy : XDy} {st : Nat → Int32} (hT : toldR td to) (hD : dayR (pN td) dy.1 dy.2.1 dy.2.2.1 dy.2.2.2 st) : ∀ (n k : Nat) (a b c : Int32), k + n ≤ pN td → (L_X8_count_10 to st n k a b c).2.1 = L_X7_finesOfAll_4 td dy n k b
  | 0, k, a, b, c, _ => by rw [L_X8_count_10, L_X7_finesOfAll_4]
  | n + 1, k, a, b, c, h => by
    rw [L_X8_count_10, L_X7_finesOfAll_4, fine_eq hT hD (p := k) (by omega)]
    exact cnt_fi hT hD n (k + 1) _ _ _ (by omega)
theorem cnt_ow (to st : Nat → Int32) : ∀ (n k : Nat) (a b : Int32), (L_X8_count_87 to st n k a b).2 = b + nI (fb_ct (fun j => decide (¬ st (k + j) < 0)) n)
  | 0, k, a, b => by
    rw [L_X8_count_87]
    show b = b + nI 0
    rw [nI_0, Int32.add_zero]
  | n + 1, k, a, b => by
    rw [L_X8_count_87, cnt_ow to st n (k + 1), ct_sm, ct_sm, sm_front (fun j => if decide (¬ st j < 0) = true then 1 else 0), Int32.add_assoc]
    congr 1
    by_cases h : st k < 0
    · rw [if_pos h, if_neg (by simp [h]), nI_add]
    · rw [if_neg h, if_pos (by simp [h]), nI_add]
theorem cnt_cl {to st : Nat → Int32} {cl : Int64} (hc : ∀ s, s < 60 → to (85 + s) = (if bL cl s then nI 1 else nI 0)) : ∀ (n k : Nat) (a b : Int32), k + n ≤ 60 → (L_X8_count_87 to st n k a b).1 = a + nI (fb_ct (fun j => bL cl (k + j)) n)
  | 0, k, a, b, _ => by
    rw [L_X8_count_87]
    show a = a + nI 0
    rw [nI_0, Int32.add_zero]
  | n + 1, k, a, b, h => by
    rw [L_X8_count_87, cnt_cl hc n (k + 1) _ _ (by omega), ct_sm, ct_sm, sm_front (fun j => if bL cl j = true then 1 else 0), Int32.add_assoc, hc k (by omega)]
    congr 1
    by_cases h : bL cl k = true
    · rw [if_pos h, if_pos h, nI_add]
    · rw [if_neg h, if_neg h, nI_add]
theorem whoGo_eq {td : XTd} {to : Nat → Int32} {dy : XDy} {st : Nat → Int32} (h6 : pN td ≤ 6) (hD : dayR (pN td) dy.1 dy.2.1 dy.2.2.1 dy.2.2.2 st) : f_X0_whoGo dy = (L_X8_count_10 to st (pN td) 0 (nI 0) (nI 0) (nI 0)).2.2 := by
  refine bI_ext (fun i hi => ?_)
  unfold f_X0_whoGo
  rw [cnt_go, show bI (nI 0) i = false from by rw [nI_0]; exact bI_0 i, Bool.false_or, orI0 (F := L_X0_whoGo_4 dy) (g := fun k => if dy.1 k = (-1 : Int32) then nI 0 else nI 1 <<< (nI k &&& 31)) (fun _ _ => rfl) (fun n k x => by
    rw [L_X0_whoGo_4]
    by_cases h : dy.1 k = -1
    · rw [if_pos h, if_pos h, orI_0]
    · rw [if_neg h, if_neg h]), exB_cut h6 (fun k h1 h2 => by
    (try dsimp only)
    rcases (hD.2.1 k h2).2 with e | ⟨h, _⟩
    · rw [if_pos e, nI_0, bI_0]
    · omega)]
  refine exB_cong (fun k hk => ?_)
  (try dsimp only)
  rw [Nat.zero_add, (hD.2.1 k (by omega)).1]
  rcases (hD.2.1 k (by omega)).2 with e | ⟨_, s, hs, e⟩
  · rw [e, if_pos rfl, if_pos (by decide)]
  · rw [e, if_neg (fun z => nI_pos (n := s) (by omega) (by rw [z]; decide)), if_neg (nI_pos (by omega))]
theorem bI_sh : ∀ k, k < 6 → ∀ i, i < 32 → (bI (nI 1 <<< (nI k &&& 31)) i = decide (i = k) ∧ bI (nI 0 <<< (nI k &&& 31)) i = false) := by decide +kernel
theorem hiRo {ro : Int32} {P : Nat} (h : ∀ p, P ≤ p → bI ro p = false) {i : Nat} (hi : ¬ i < P) : bI ro i = false := h i (by omega)
theorem ropesNow_eq {td : XTd} {to : Nat → Int32} {dy : XDy} {st : Nat → Int32} (h6 : pN td ≤ 6) (hD : dayR (pN td) dy.1 dy.2.1 dy.2.2.1 dy.2.2.2 st) : dy.2.2.1 = (L_X8_count_10 to st (pN td) 0 (nI 0) (nI 0) (nI 0)).1 := by
  refine bI_ext (fun i hi => ?_)
  rw [cnt_ro, nI_0, bI_0, Bool.false_or, exB_one (i := i) (fun k hk hne => by
    (try dsimp only)
    rw [Nat.zero_add, hD.2.2.1 k (by omega)]
    by_cases e : bI dy.2.2.1 k = true
    · rw [if_pos e, (bI_sh k (by omega) i hi).1, decide_eq_false (fun z => hne z.symm)]
    · rw [if_neg e, (bI_sh k (by omega) i hi).2])]
  by_cases hP : i < pN td
  · rw [decide_eq_true hP, Bool.true_and, Nat.zero_add, hD.2.2.1 i (by omega)]
    by_cases e : bI dy.2.2.1 i = true
    · rw [if_pos e, (bI_sh i (by omega) i hi).1, e, decide_eq_true rfl]
    · rw [if_neg e, (bI_sh i (by omega) i hi).2, Bool.not_eq_true _ |>.mp e]
  · rw [decide_eq_false hP, Bool.false_and]
    exact hD.2.2.2.1 i (by omega)
theorem owned_eq {td : XTd} {to : Nat → Int32} {dy : XDy} {st : Nat → Int32} (h6 : pN td ≤ 6) (hD : dayR (pN td) dy.1 dy.2.1 dy.2.2.1 dy.2.2.2 st) : f_J13_bitCount_95d88 (f_X0_landOfAll dy) = (L_X8_count_87 to st 60 0 (nI 0) (nI 0)).2 := by
  have hb : ∀ i, bL (f_X0_landOfAll dy) i = exB (fun p => bL (dy.2.1 p) i) 6 := fun i => orL0 (F := L_X0_landOfAll_4 dy) (g := fun k => dy.2.1 k) (fun _ _ => rfl) (fun _ _ _ => rfl) i 6
  rw [bitCount_eq, ct_cut (m := 60) (by decide) (fun k h1 h2 => by rw [hb]; exact exB_none (fun p hp => hD.1.2 p hp k h1)), cnt_ow, nI_add, Nat.zero_add]
  congr 1
  refine fb_ct_cong (fun i hi => ?_)
  rw [hb, Nat.zero_add]
  have := own_neg h6 hD.1 hi
  by_cases h : st i < 0
  · rw [exB_none (this.mp h)]
    simp [h]
  · rw [decide_eq_true h]
    cases e : exB (fun p => bL (dy.2.1 p) i) 6
    · refine absurd (this.mpr (fun p hp => ?_)) h
      cases e2 : bL (dy.2.1 p) i
      · rfl
      · rw [(exB_iff _ 6).mpr ⟨p, hp, e2⟩] at e
        exact e
    · rfl
theorem count_eq {tx : XTx} {td : XTd} {dy : XDy} {pn : Nat × Nat} {si : XSi} {to st : Nat → Int32} {mt : MTx} {un se : MUn} (hT : toldR td to) (hD : dayR (pN td) dy.1 dy.2.1 dy.2.2.1 dy.2.2.2 st) (h7 : se.2 = si.2.2) (h8 : un.2 = pn.2) (h9 : mt.2.1 = tx.2.1) (wh : Int32) : f_X7_count tx td dy pn si wh = f_X8_count to st mt un se wh := by
  obtain ⟨_, hm, h6⟩ := told_m hT
  unfold f_X7_count f_X8_count
  rw [hm, whoGo_eq (to := to) h6 hD, cnt_fi hT hD (pN td) 0 _ _ _ (by omega), ← ropesNow_eq (to := to) h6 hD, owned_eq (to := to) h6 hD, cnt_cl (cl := td.2.2.2.2.2.2) hT.2.2.2.2.1 60 0 _ _ (by omega), h7, h8, h9, (day_clk hD).1, bitCount_eq, ct_cut (m := 60) (by decide) (fun k h1 h2 => hT.2.2.2.2.2 k h1), nI_add, Nat.zero_add]
  rw [show (fun j => bL td.2.2.2.2.2.2 (0 + j)) = bL td.2.2.2.2.2.2 from funext (fun j => by rw [Nat.zero_add])]
  rfl
