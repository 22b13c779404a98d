def FF (td : XTd) (to : Nat → Int32) (la : Nat → Int64) (st : Nat → Int32) (p : Nat) : Nat := fb_sm (fun i => if SI to st p i = true then cN td to la p i + (if 2 ≤ fb_ct (fun q => SI to st q i) p then 1 else 0) else 0) 60
theorem FF_le {td : XTd} {to : Nat → Int32} {la : Nat → Int64} {st : Nat → Int32} (hT : toldR td to) (ho : ownR (pN td) la st) (p : Nat) : FF td to la st p ≤ 2460 := by
  unfold FF
  refine Nat.le_trans (fb_sm_bound (c := 41) (fun k hk => ?_)) (by decide)
  have := cN_le (p := p) hT ho hk
  split
  · split <;> omega
  · omega
theorem SI_z {to st : Nat → Int32} {p i : Nat} : f_X8_standsIn to st p (nI i) = 0 ↔ SI to st p i = false := by
  unfold SI
  rw [decide_eq_false_iff_not, Decidable.not_not]
theorem crowd_num (to st : Nat → Int32) (i p : Nat) : L_X8_fullFine_25 to st i p 0 (nI 0) = nI (fb_ct (fun q => SI to st q i) p) := by
  rw [ct_sm]
  refine sumL0 (F := L_X8_fullFine_25 to st i) (g := fun q => if f_X8_standsIn to st q (nI i) = 0 then nI 0 else nI 1) _ (fun _ _ => rfl) (fun _ _ _ => rfl) p (fun q _ => ?_)
  by_cases h : f_X8_standsIn to st q (nI i) = 0
  · rw [if_pos h, SI_z.mp h]
    rfl
  · rw [if_neg h, Bool.not_eq_false _ |>.mp (fun e => h (SI_z.mpr e))]
    rfl
theorem fullFine_num {td : XTd} {to : Nat → Int32} {la : Nat → Int64} {st : Nat → Int32} (hT : toldR td to) (ho : ownR (pN td) la st) {p : Nat} (hp : p < pN td) : f_X8_fullFine to st p = nI (FF td to la st p) := by
  have h6 : pN td ≤ 6 := hT.1
  refine sumL0 (F := L_X8_fullFine_4 to st p) (g := fun i => if f_X8_standsIn to st p (nI i) = 0 then nI 0 else (f_X8_costs to st p i) + (if L_X8_fullFine_25 to st i p 0 (nI 0) ≤ nI 1 then nI 0 else nI 1)) _ (fun _ _ => rfl) (fun n k x => ?_) 60 (fun i hi => ?_)
  · rw [L_X8_fullFine_4]
    by_cases h : f_X8_standsIn to st p (nI k) = 0
    · rw [if_pos h, if_pos h, nI_0, Int32.add_zero]
    · rw [if_neg h, if_neg h]
  · by_cases h : f_X8_standsIn to st p (nI i) = 0
    · rw [if_pos h, SI_z.mp h]
      rfl
    · rw [if_neg h, Bool.not_eq_false _ |>.mp (fun e => h (SI_z.mpr e)), if_pos rfl, crowd_num, costs_num hT ho hp hi]
      have := fb_ct_le (fun q => SI to st q i) p
      by_cases h2 : 2 ≤ fb_ct (fun q => SI to st q i) p
      · rw [if_neg (nI_ge (by omega) (by omega)), if_pos h2, nI_add]
      · rw [if_pos (nI_le (by omega) (by decide)), if_neg h2, nI_add]
/-- the class's whole fine of one who starts so, the others as they do -/
theorem fine_core {td : XTd} {to : Nat → Int32} {dy : XDy} {st : Nat → Int32} (hT : toldR td to) {p c : Nat} {sta clk : Int32} (hp : p < pN td) (hq : ∀ q, q < p → st (60 + q) = dy.1 q ∧ staR (dy.1 q)) (h60 : st (60 + p) = sta) (hs : staR sta) (h72 : st 72 = clk) (hc : clk = nI c) (bc : c ≤ 9) : f_X1_costOf td dy (nI p) (f_X1_stands td (nI p) sta clk) + f_J13_bitCount_95d88 ((f_X1_stands td (nI p) sta clk) &&& (f_X1_crowdAheadOf td dy (nI p) clk)) = nI (FF td to dy.2.1 st p) := by
  have h6 : pN td ≤ 6 := hT.1
  rw [costOf_num hT hp, bitCount_eq, nI_add]
  congr 1
  rw [ct_cut (m := 60) (by decide) (fun k h1 h2 => by rw [bL_and, stands_bit hT hp h60 h72 hs hc bc h2, decide_eq_false (by omega)]; rfl), ct_sm, ← fb_sm_add]
  unfold FF
  refine fb_sm_cong (fun i hi => ?_)
  rw [bL_and, stands_bit hT hp h60 h72 hs hc bc (by omega), decide_eq_true hi, Bool.true_and]
  unfold f_X1_crowdAheadOf
  rw [crowd_bit (p := p) (by omega) 6 0 0 0 (by omega) (by omega) (by rw [bL_0]; rfl) (by rw [bL_0]; rfl)]
  rw [fb_ct_cong (q := fun q => SI to st q i) (fun q hq2 => by
    rw [start_of (by omega), stands_bit hT (by omega) (hq q hq2).1 h72 (hq q hq2).2 hc bc (by omega), decide_eq_true hi, Bool.true_and])]
  cases SI to st p i
  · simp
  · simp
theorem rope_iff (ro : Int32) {p : Nat} (hp : p < 6) : ro &&& (nI 1 <<< (nI p &&& 31)) = 0 ↔ bI ro p = false := by
  rw [bI_ne0]
  constructor
  · intro h
    have := h p (by omega)
    rw [bI_and, bI_one p (by omega) p (by omega)] at this
    simpa using this
  · intro h i hi
    rw [bI_and, bI_one p (by omega) i hi]
    by_cases e : i = p
    · rw [e, h, Bool.false_and]
    · simp [e]
theorem isRoped_num {dy : XDy} {p : Nat} (hp : p < 6) : f_X0_isRoped dy (nI p) = if bI dy.2.2.1 p then nI 1 else nI 0 := by
  unfold f_X0_isRoped
  by_cases e : bI dy.2.2.1 p = true
  · rw [if_neg (fun q => by rw [(rope_iff _ hp).mp q] at e; exact absurd e (by decide)), if_pos e]
  · rw [if_neg e, if_pos ((rope_iff _ hp).mpr (Bool.not_eq_true _ |>.mp e))]
theorem withRope_eq {dy : XDy} {st : Nat → Int32} {p F : Nat} (hp : p < 6) (h : st (66 + p) = if bI dy.2.2.1 p then nI 1 else nI 0) : f_X1_withRope dy (nI p) (nI F) = (if st (66 + p) = nI 1 then nI F / nI 2 else nI F) := by
  unfold f_X1_withRope
  rw [isRoped_num hp, h]
  by_cases e : bI dy.2.2.1 p = true
  · rw [if_pos e, if_neg (show ¬ nI 1 = 0 by decide), if_pos rfl]
  · rw [if_neg e, if_pos (show nI 0 = 0 by decide), if_neg (show ¬ nI 0 = nI 1 by decide)]
theorem isRoped_eq {dy : XDy} {p : Nat} (hp : p < 6) : (if f_X0_isRoped dy (nI p) = 0 then nI 0 else nI 1) = if bI dy.2.2.1 p then nI 1 else nI 0 := by
  rw [isRoped_num hp]
  by_cases e : bI dy.2.2.1 p = true
  · rw [if_pos e, if_neg (show ¬ nI 1 = 0 by decide)]
  · rw [if_neg e, if_pos (show nI 0 = 0 by decide)]
theorem day_sta {P : Nat} {sta : Nat → Int32} {la : Nat → Int64} {ro ck : Int32} {w : Nat → Int32} (h : dayR P sta la ro ck w) {q : Nat} (hq : q < 6) : w (60 + q) = sta q ∧ staR (sta q) := by
  obtain ⟨_, h2, _⟩ := h
  refine ⟨(h2 q hq).1, ?_⟩
  rcases (h2 q hq).2 with e | ⟨_, s, hs, e⟩
  · exact Or.inl e
  · exact Or.inr ⟨s, by omega, e⟩
/-- fines as things stand -/
theorem wholeFine_eq {td : XTd} {to : Nat → Int32} {dy : XDy} {st : Nat → Int32} (hT : toldR td to) (hD : dayR (pN td) dy.1 dy.2.1 dy.2.2.1 dy.2.2.2 st) {p : Nat} (hp : p < pN td) : f_X1_wholeFine td dy (nI p) dy.2.2.2 = nI (FF td to dy.2.1 st p) ∧ f_X8_fullFine to st p = nI (FF td to dy.2.1 st p) := by
  have h6 : pN td ≤ 6 := hT.1
  obtain ⟨ho, h2, h3, h4, h5, c, hc, h7⟩ := hD
  have hD : dayR (pN td) dy.1 dy.2.1 dy.2.2.1 dy.2.2.2 st := ⟨ho, h2, h3, h4, h5, c, hc, h7⟩
  refine ⟨?_, fullFine_num hT ho hp⟩
  unfold f_X1_wholeFine
  rw [start_of (by omega)]
  exact fine_core hT hp (fun q hq => day_sta hD (by omega)) (day_sta hD (by omega)).1 (day_sta hD (by omega)).2 h5 h7 hc
theorem fine_eq {td : XTd} {to : Nat → Int32} {dy : XDy} {st : Nat → Int32} (hT : toldR td to) (hD : dayR (pN td) dy.1 dy.2.1 dy.2.2.1 dy.2.2.2 st) {p : Nat} (hp : p < pN td) : f_X1_fine td dy (nI p) dy.2.2.2 = f_X8_fineOf to st p := by
  have h6 : pN td ≤ 6 := hT.1
  obtain ⟨e1, e2⟩ := wholeFine_eq hT hD hp
  unfold f_X1_fine f_X8_fineOf
  rw [e1, e2]
  exact withRope_eq (by omega) (hD.2.2.1 p (by omega))
