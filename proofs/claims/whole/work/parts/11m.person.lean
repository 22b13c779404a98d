/-! person, second, as -/
theorem standMany_num (to st : Nat → Int32) (p : Nat) : f_X8_standMany to st p = nI (fb_ct (SI to st p) 60) := by
  rw [ct_sm]
  refine sumL0 (F := L_X8_standMany_4 to st p) (g := fun i => if f_X8_standsIn to st p (nI i) = 0 then nI 0 else nI 1) _ (fun _ _ => rfl) (fun _ _ _ => rfl) 60 (fun i _ => ?_)
  by_cases h : f_X8_standsIn to st p (nI i) = 0
  · rw [if_pos h, SI_z.mp h]
    rfl
  · rw [if_neg h, Bool.not_eq_false _ |>.mp (fun e => h (SI_z.mpr e))]
    rfl
theorem day_clk {P : Nat} {sta : Nat → Int32} {la : Nat → Int64} {ro ck : Int32} {w : Nat → Int32} (h : dayR P sta la ro ck w) : w 72 = ck ∧ ∃ c, c ≤ 9 ∧ ck = nI c := h.2.2.2.2
theorem standsNow_bit {td : XTd} {to : Nat → Int32} {dy : XDy} {st : Nat → Int32} (hT : toldR td to) (hD : dayR (pN td) dy.1 dy.2.1 dy.2.2.1 dy.2.2.2 st) {p i : Nat} (hp : p < pN td) (hi : i < 64) : bL (f_X7_standsNow td dy (nI p)) i = (decide (i < 60) && SI to st p i) := by
  have h6 : pN td ≤ 6 := hT.1
  obtain ⟨h5, c, hc, h7⟩ := day_clk hD
  unfold f_X7_standsNow
  rw [start_of (by omega)]
  exact stands_bit hT hp (day_sta hD (by omega)).1 h5 (day_sta hD (by omega)).2 h7 hc hi
theorem standsNow_ct {td : XTd} {to : Nat → Int32} {dy : XDy} {st : Nat → Int32} (hT : toldR td to) (hD : dayR (pN td) dy.1 dy.2.1 dy.2.2.1 dy.2.2.2 st) {p : Nat} (hp : p < pN td) : f_J13_bitCount_95d88 (f_X7_standsNow td dy (nI p)) = nI (fb_ct (SI to st p) 60) := by
  rw [bitCount_eq, ct_cut (m := 60) (by decide) (fun k h1 h2 => by rw [standsNow_bit hT hD hp h2, decide_eq_false (by omega)]; rfl)]
  congr 1
  exact fb_ct_cong (fun i hi => by rw [standsNow_bit hT hD hp (by omega), decide_eq_true hi, Bool.true_and])
theorem own_iff {P : Nat} {la : Nat → Int64} {ow : Nat → Int32} (h6 : P ≤ 6) (ho : ownR P la ow) {p s : Nat} (hp : p < 6) (hs : s < 60) : ow s = nI p ↔ bL (la p) s = true := by
  rcases ho.1 s hs with ⟨h1, h2⟩ | ⟨q, hq, h1, h2⟩
  · rw [h1, h2 p hp]
    refine ⟨fun e => ?_, fun e => absurd e (by decide)⟩
    have := nI_pos (n := p) (by omega)
    rw [← e] at this
    exact absurd (show (-1 : Int32) < 0 by decide) this
  · rw [h1, h2 p hp, nI_eq (by omega) (by omega), decide_eq_true_iff]
    exact eq_comm
theorem own_neg {P : Nat} {la : Nat → Int64} {ow : Nat → Int32} (h6 : P ≤ 6) (ho : ownR P la ow) {s : Nat} (hs : s < 60) : ow s < 0 ↔ ∀ p, p < 6 → bL (la p) s = false := by
  rcases ho.1 s hs with ⟨h1, h2⟩ | ⟨q, hq, h1, h2⟩
  · rw [h1]
    exact ⟨fun _ => h2, fun _ => by decide⟩
  · rw [h1]
    refine ⟨fun e => absurd e (nI_pos (by omega)), fun e => ?_⟩
    have := e q (by omega)
    rw [h2 q (by omega)] at this
    simp at this
theorem ownMany_num {P : Nat} {la : Nat → Int64} {ow : Nat → Int32} (h6 : P ≤ 6) (ho : ownR P la ow) {p : Nat} (hp : p < 6) : f_X8_ownMany ow (nI p) = nI (fb_ct (bL (la p)) 60) := by
  rw [ct_sm]
  refine sumL0 (F := L_X8_ownMany_4 ow (nI p)) (g := fun i => if ow i = nI p then nI 1 else nI 0) _ (fun _ _ => rfl) (fun _ _ _ => rfl) 60 (fun i hi => ?_)
  by_cases h : ow i = nI p
  · rw [if_pos h, if_pos ((own_iff h6 ho hp hi).mp h)]
  · rw [if_neg h, if_neg (fun e => h ((own_iff h6 ho hp hi).mpr e))]
theorem land_ct {P : Nat} {la : Nat → Int64} {ow : Nat → Int32} (ho : ownR P la ow) {p : Nat} (hp : p < 6) : f_J13_bitCount_95d88 (la p) = nI (fb_ct (bL (la p)) 60) := by
  rw [bitCount_eq, ct_cut (m := 60) (by decide) (fun k h1 h2 => ho.2 p hp k h1)]
theorem firstStood_eq {td : XTd} {to : Nat → Int32} {dy : XDy} {st : Nat → Int32} (hT : toldR td to) (hD : dayR (pN td) dy.1 dy.2.1 dy.2.2.1 dy.2.2.2 st) {p : Nat} (hp : p < pN td) : f_X7_firstStood td dy (nI p) = (if f_X8_standMany to st p = 0 then -1 else f_X8_thereBy to st p (st (60 + p))) := by
  have h6 : pN td ≤ 6 := hT.1
  have hz : f_X7_standsNow td dy (nI p) = 0 ↔ f_X8_standMany to st p = 0 := by
    rw [standMany_num, nI_z (by have := fb_ct_le (SI to st p) 60; omega), fb_ct_zero, bL_ne0]
    constructor
    · intro h i hi
      have := h i (by omega)
      rw [standsNow_bit hT hD hp (by omega), decide_eq_true hi, Bool.true_and] at this
      exact this
    · intro h i hi
      rw [standsNow_bit hT hD hp hi]
      by_cases e : i < 60
      · rw [h i e, Bool.and_false]
      · rw [decide_eq_false e]
        rfl
  unfold f_X7_firstStood
  by_cases h : f_X8_standMany to st p = 0
  · rw [if_pos h, if_pos ((lg_cmp_eq _ _).mpr (hz.mpr h))]
  · rw [if_neg h, if_neg (fun q => h (hz.mp ((lg_cmp_eq _ _).mp q))), start_of (by omega), (told_walk hT hp).1, f_X8_thereBy, (told_walk hT hp).2.1, (day_sta hD (by omega)).1, (day_clk hD).1]
theorem person_eq {td : XTd} {to : Nat → Int32} {dy : XDy} {st : Nat → Int32} (hT : toldR td to) (hD : dayR (pN td) dy.1 dy.2.1 dy.2.2.1 dy.2.2.2 st) (pe wh : Int32) : f_X7_person td dy pe wh = f_X8_person to st pe wh := by
  have h6 : pN td ≤ 6 := hT.1
  unfold f_X7_person f_X8_person
  by_cases h : f_X6_knows td pe = 0
  · rw [if_pos h, if_pos ((knows_person hT pe).mp h)]
  · rw [if_neg h, if_neg (fun q => h ((knows_person hT pe).mpr q))]
    obtain ⟨p, hp, e⟩ := (knows_iff h6 pe).mp h
    have hp : p < pN td := hp
    subst e
    have hk := (hT.2.2.1 p hp).1
    rw [nI_clamp (by omega), kind_of (by omega), pace_of (by omega), stay_of (by omega), rent_of (by omega), start_of (by omega), isRoped_eq (by omega), firstStood_eq hT hD hp, standsNow_ct hT hD hp, fine_eq hT hD hp, land_of (by omega), land_ct hD.1 (by omega), ownMany_num h6 hD.1 (by omega), standMany_num, hk.1, hk.2.1, hk.2.2.1, hk.2.2.2, (day_sta hD (by omega)).1, hD.2.2.1 p (by omega)]
