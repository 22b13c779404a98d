/-! order: what a row is fined in the model -/
theorem oS_next {td : XTd} {to : Nat → Int32} {c a g d : Nat} (hd : d < pN td) (hg : g.testBit d = false) : oS td to c a (g ||| 2 ^ d) = oS td to c a g + oT to c d := by
  unfold oS
  have h := fb_sm_upd (fun p => if g.testBit p = true then oT to c p else 0) (oT to c d) (i := d) (n := pN td) hd
  rw [hg, if_neg (by decide)] at h
  have e : fb_sm (fun p => if (g ||| 2 ^ d).testBit p = true then oT to c p else 0) (pN td) = fb_sm (fun p => if p = d then oT to c d else (if g.testBit p = true then oT to c p else 0)) (pN td) := fb_sm_cong (fun p _ => by
    rw [Nat.testBit_or, Nat.testBit_two_pow]
    by_cases z : p = d
    · rw [if_pos z, z, decide_eq_true rfl, Bool.or_true, if_pos rfl]
    · rw [if_neg z, decide_eq_false (fun y => z y.symm), Bool.or_false])
  rw [e]
  omega
theorem oS_zero (td : XTd) (to : Nat → Int32) (c a : Nat) : oS td to c a 0 = a := by
  unfold oS
  rw [sm_zero (fun p _ => by rw [Nat.zero_testBit, if_neg (by decide)])]
  rfl
section RW
variable {td : XTd} {to : Nat → Int32} {dy : XDy} {st : Nat → Int32} {N r a c : Nat}
theorem oS_path (hn : fb_ct (fun i => (gM N r N).testBit i) 6 = N) (hP : ∀ k, k < N → dgt N r k < pN td) {k : Nat} (hk : k < N) : oS td to c a (gM N r (k + 1)) = oS td to c a (gM N r k) + oT to c (dgt N r k) := by
  rw [gM]
  exact oS_next (hP k hk) (gM_new hn hk)
theorem oS_mono (hn : fb_ct (fun i => (gM N r N).testBit i) 6 = N) (hP : ∀ k, k < N → dgt N r k < pN td) {k : Nat} : ∀ t, k + t ≤ N → oS td to c a (gM N r k) ≤ oS td to c a (gM N r (k + t))
  | 0, _ => Nat.le_refl _
  | t + 1, h => by
    have h1 := oS_mono hn hP (k := k) t (by omega)
    have h2 := oS_path (td := td) (to := to) (c := c) (a := a) hn hP (k := k + t) (by omega)
    rw [show k + (t + 1) = k + t + 1 by omega]
    omega
theorem row32 (hT : toldR td to) (hn : fb_ct (fun i => (gM N r N).testBit i) 6 = N) (hP : ∀ k, k < N → dgt N r k < pN td) (hc9 : c ≤ 9) (ha : a < 60) {rw_ : MKp} (hrw : ∀ j, j < N → rw_.1 j = nI (dgt N r j)) : ∀ n k x4 w, k + n = N → w 72 = nI c → (((L_X8_rowFine_32 to rw_ n k x4 (nI (oS td to c a (gM N r k))) w).1 = 0 ↔ (x4 = 0 ∨ ∃ j, k ≤ j ∧ j < N ∧ ¬ oS td to c a (gM N r j) < 60)) ∧ (∀ j, k ≤ j → j < N → (L_X8_rowFine_32 to rw_ n k x4 (nI (oS td to c a (gM N r k))) w).2.2 (60 + dgt N r j) = nI (oS td to c a (gM N r j))) ∧ ∀ i, (∀ j, k ≤ j → j < N → i ≠ 60 + dgt N r j) → (L_X8_rowFine_32 to rw_ n k x4 (nI (oS td to c a (gM N r k))) w).2.2 i = w i) := by
  have h6 : pN td ≤ 6 := hT.1
  intro n
  induction n with
  | zero =>
    intro k x4 w hk h72
    rw [L_X8_rowFine_32]
    exact ⟨⟨fun h => Or.inl h, fun h => h.elim id (fun ⟨j, h1, h2, _⟩ => by omega)⟩, fun j h1 h2 => by omega, fun _ _ => rfl⟩
  | succ n ih =>
    intro k x4 w hk h72
    have hd := dgt_lt N r k
    have hdP := hP k (by omega)
    have hS := oS_lt (c := c) (a := a) (g := gM N r k) hT hc9 ha
    have hst : (f_X8_thereBy to (upd w (60 + dgt N r k) (nI (oS td to c a (gM N r k)))) (dgt N r k) (nI (oS td to c a (gM N r k)))) + to (13 + dgt N r k) = nI (oS td to c a (gM N r (k + 1))) := by
      unfold f_X8_thereBy
      rw [pk_un (by omega), h72, (told_walk hT hdP).2.1, (told_stay hT hdP).2.1, nI_add, nI_add, nI_add, oS_path hn hP (by omega)]
      unfold oT
      congr 1
      omega
    rw [L_X8_rowFine_32, hrw k (by omega), nI_clamp (by omega), hst]
    obtain ⟨i1, i2, i3⟩ := ih (k + 1) (if x4 = 0 then nI 0 else (if nI 60 ≤ nI (oS td to c a (gM N r k)) then nI 0 else nI 1)) (upd w (60 + dgt N r k) (nI (oS td to c a (gM N r k)))) (by omega) (by rw [pk_un (by omega)]; exact h72)
    refine ⟨?_, fun j h1 h2 => ?_, fun i hi => ?_⟩
    · rw [i1]
      have hf : (if x4 = 0 then nI 0 else (if nI 60 ≤ nI (oS td to c a (gM N r k)) then nI 0 else nI 1)) = 0 ↔ (x4 = 0 ∨ ¬ oS td to c a (gM N r k) < 60) := by
        by_cases z : x4 = 0
        · rw [if_pos z]
          exact ⟨fun _ => Or.inl z, fun _ => nI_0⟩
        · rw [if_neg z]
          by_cases y : oS td to c a (gM N r k) < 60
          · rw [if_neg (nI_ge y (by decide))]
            exact ⟨fun q => absurd q (by decide), fun q => q.elim (fun q => absurd q z) (fun q => absurd y q)⟩
          · rw [if_pos (nI_le (by omega) (by omega))]
            exact ⟨fun _ => Or.inr y, fun _ => nI_0⟩
      rw [hf]
      constructor
      · rintro ((h | h) | ⟨j, h1, h2, h3⟩)
        · exact Or.inl h
        · exact Or.inr ⟨k, Nat.le_refl k, by omega, h⟩
        · exact Or.inr ⟨j, by omega, h2, h3⟩
      · rintro (h | ⟨j, h1, h2, h3⟩)
        · exact Or.inl (Or.inl h)
        · by_cases e : j = k
          · rw [e] at h3
            exact Or.inl (Or.inr h3)
          · exact Or.inr ⟨j, by omega, h2, h3⟩
    · by_cases e : j = k
      · subst e
        rw [i3 _ (fun q q1 q2 y => dgt_ne hn (j := j) (k := q) (by omega) q2 (by omega)), pk_us]
      · exact i2 j (by omega) h2
    · rw [i3 i (fun j h1 h2 => hi j (by omega) h2), pk_un (hi k (Nat.le_refl k) (by omega))]
theorem row_fine (hT : toldR td to) (hD : dayX (pN td) dy st) (hn : fb_ct (fun i => (gM N r N).testBit i) 6 = N) (hP : ∀ k, k < N → dgt N r k < pN td) (hc : dy.2.2.2 = nI c) (hc9 : c ≤ 9) (ha : a < 60) {W : Nat → Int32} (hW1 : ∀ j, j < N → W (60 + dgt N r j) = nI (oS td to c a (gM N r j))) (hW2 : ∀ q, q < 6 → (∀ j, j < N → q ≠ dgt N r j) → W (60 + q) = -1) (hW3 : ∀ i, ¬ (60 ≤ i ∧ i < 66) → W i = st i) {k : Nat} (hk : k < N) : f_X8_fineOf to W (dgt N r k) = nI (oC td dy (dgt N r k) (oS td to c a (gM N r k))) := by
  have h6 : pN td ≤ 6 := hT.1
  have hp := hP k hk
  have hSk := oS_lt (c := c) (a := a) (g := gM N r k) hT hc9 ha
  have h72 : W 72 = dy.2.2.2 := by rw [hW3 72 (by omega)]; exact (day_clk hD).1
  have hown : ownR (pN td) dy.2.1 W := ownR_cong (fun _ _ => rfl) (fun j hj => hW3 j (by omega)) hD.1
  have hSI : ∀ j, j < N → ∀ i, i < 60 → SI to W (dgt N r j) i = decide (oS td to c a (gM N r j) + wkN to (dgt N r j) + c ≤ i ∧ i < oS td to c a (gM N r j) + wkN to (dgt N r j) + c + stN to (dgt N r j)) := fun j hj i hi => by
    obtain ⟨w1, w2, w3, w4⟩ := told_walk hT (hP j hj)
    obtain ⟨y1, y2, y3, y4⟩ := told_stay hT (hP j hj)
    exact standsIn_num w2 y2 (hW1 j hj) (h72.trans hc) w4 y3 y4 (oS_lt hT hc9 ha) hc9 (by omega)
  have hfar : ∀ j l, j < l → l < N → oS td to c a (gM N r j) + oT to c (dgt N r j) ≤ oS td to c a (gM N r l) := fun j l h1 h2 => by
    have e1 := oS_path (td := td) (to := to) (c := c) (a := a) hn hP (k := j) (by omega)
    have e2 := oS_mono (td := td) (to := to) (c := c) (a := a) hn hP (k := j + 1) (l - (j + 1)) (by omega)
    rw [show j + 1 + (l - (j + 1)) = l by omega] at e2
    omega
  have hFF : FF td to dy.2.1 W (dgt N r k) = fb_sm (fun i => if bL (f_X1_stands td (nI (dgt N r k)) (nI (oS td to c a (gM N r k))) dy.2.2.2) i = true then cN td to dy.2.1 (dgt N r k) i else 0) 60 := by
    unfold FF
    refine fb_sm_cong (fun i hi => ?_)
    rw [stands_bit (st := W) hT hp (hW1 k hk) h72 (Or.inr ⟨_, hSk, rfl⟩) hc hc9 (by omega), decide_eq_true hi, Bool.true_and]
    by_cases z : SI to W (dgt N r k) i = true
    · rw [if_pos z, if_pos z, if_neg, Nat.add_zero]
      rw [fb_ct_zero.mpr]
      · omega
      · intro q hq
        by_cases hex : ∃ j, j < N ∧ q = dgt N r j
        · obtain ⟨j, hj, e⟩ := hex
          subst e
          rw [hSI k hk i hi, decide_eq_true_iff] at z
          rw [hSI j hj i hi, decide_eq_false_iff_not]
          have hjk : j ≠ k := fun e => by
            rw [e] at hq
            omega
          rcases Nat.lt_or_gt_of_ne hjk with h1 | h1
          · have := hfar j k h1 hk
            unfold oT at this
            omega
          · have := hfar k j h1 hj
            unfold oT at this
            omega
        · exact standsIn_m1 (hW2 q (by omega) (fun j hj e => hex ⟨j, hj, e⟩))
    · rw [if_neg z, if_neg z]
  have hoc := (oC_num hT hD hp (oS td to c a (gM N r k))).1
  rw [costOf_num hT hp, ← hFF, withRope_eq (st := W) (by omega) (by rw [hW3 _ (by omega)]; exact hD.2.2.1 _ (by omega))] at hoc
  unfold f_X8_fineOf
  rw [fullFine_num hT hown hp]
  exact hoc
/-- a row of all of a set: what it is fined -/
theorem row_val (hT : toldR td to) (hD : dayX (pN td) dy st) (hn : fb_ct (fun i => (gM N r N).testBit i) 6 = N) (hP : ∀ k, k < N → dgt N r k < pN td) (hc : dy.2.2.2 = nI c) (hc9 : c ≤ 9) (ha : a < 60) {rw_ : MKp} (hrw : ∀ j, j < N → rw_.1 j = nI (dgt N r j)) {w : Nat → Int32} (hw : ∀ i, ¬ (60 ≤ i ∧ i < 66) → w i = st i) : ((∃ j, j < N ∧ ¬ oS td to c a (gM N r j) < 60) → (f_X8_rowFine to w rw_ N (nI a)).1 = -1) ∧ ((∀ j, j < N → oS td to c a (gM N r j) < 60) → (f_X8_rowFine to w rw_ N (nI a)).1 = nI (fb_sm (fun k => oC td dy (dgt N r k) (oS td to c a (gM N r k))) N)) ∧ ∀ i, ¬ (60 ≤ i ∧ i < 66) → (f_X8_rowFine to w rw_ N (nI a)).2 i = st i := by
  have h6 : pN td ≤ 6 := hT.1
  have h2 : ∀ i, L_X8_rowFine_2 6 0 w i = if 60 ≤ i ∧ i < 66 then -1 else w i := fun i => by
    rw [fill1 (F := L_X8_rowFine_2) (o := 60) (g := fun _ => (-1 : Int32)) (fun _ _ => rfl) (fun _ _ _ => rfl) 6 0 w i]
  have h72 : L_X8_rowFine_2 6 0 w 72 = nI c := by
    rw [h2, if_neg (by omega), hw 72 (by omega), (day_clk hD).1]
    exact hc
  have e0 : nI a = nI (oS td to c a (gM N r 0)) := by rw [gM, oS_zero]
  obtain ⟨r1, r2, r3⟩ := row32 hT hn hP hc9 ha hrw N 0 (nI 1) (L_X8_rowFine_2 6 0 w) (by omega) h72
  rw [← e0] at r1 r2 r3
  unfold f_X8_rowFine
  generalize L_X8_rowFine_32 to rw_ N 0 (nI 1) (nI a) (L_X8_rowFine_2 6 0 w) = R at r1 r2 r3 ⊢
  have hW3 : ∀ i, ¬ (60 ≤ i ∧ i < 66) → R.2.2 i = st i := fun i hi => by
    rw [r3 i (fun j _ hj => by have := dgt_lt N r j; omega), h2, if_neg hi]
    exact hw i hi
  refine ⟨fun ⟨j, hj, h⟩ => ?_, fun h => ?_, hW3⟩
  · dsimp only
    rw [if_pos (r1.mpr (Or.inr ⟨j, Nat.zero_le j, hj, h⟩))]
  · dsimp only
    rw [if_neg (fun z => (r1.mp z).elim (fun q => absurd q (by decide)) (fun ⟨j, _, h1, h3⟩ => h3 (h j h1)))]
    refine sumL0 (F := L_X8_rowFine_113 to rw_ R) (g := fun k => f_X8_fineOf to R.2.2 ((rw_.1 k).toNatClampNeg)) _ (fun _ _ => rfl) (fun _ _ _ => rfl) N (fun k hk => ?_)
    rw [hrw k hk, nI_clamp (by have := dgt_lt N r k; omega)]
    refine row_fine hT hD hn hP hc hc9 ha (fun j hj => r2 j (Nat.zero_le j) hj) (fun q hq hne => ?_) hW3 hk
    rw [r3 _ (fun j _ hj e => hne j hj (by omega)), h2, if_pos (by omega)]
end RW
