/-! order: the class's table of sets -/
theorem bI_nI : ∀ g, g < 64 → ∀ i, i < 32 → bI (nI g) i = g.testBit i := by decide +kernel
theorem or_bit : ∀ g, g < 64 → ∀ p, p < 6 → (nI g ||| (nI 1 <<< (nI p &&& 31)) = nI (g ||| 2 ^ p) ∧ g ||| 2 ^ p < 64 ∧ (g.testBit p = false → g < g ||| 2 ^ p)) := by decide +kernel
theorem ins_iff {s g p : Nat} (hs : s < 64) (hg : g < 64) (hp : p < 6) : ((nI s &&& (nI g ^^^ (-1 : Int32))) &&& (nI 1 <<< (nI p &&& 31))) = 0 ↔ insB s g p = false := by
  rw [rope_iff _ hp, bI_and, bI_xor, bI_m1 (by omega), bI_nI s hs p (by omega), bI_nI g hg p (by omega), Bool.xor_true]
  rfl
theorem ins_or {s g p q : Nat} (hp : p < 6) : insB s (g ||| 2 ^ p) q = if q = p then false else insB s g q := by
  unfold insB
  rw [Nat.testBit_or, Nat.testBit_two_pow]
  by_cases e : q = p
  · rw [if_pos e, decide_eq_true e.symm]
    simp
  · rw [if_neg e, decide_eq_false (fun z => e z.symm), Bool.or_false]
theorem ins_tb {s g p : Nat} (h : insB s g p = true) : s.testBit p = true ∧ g.testBit p = false := by
  unfold insB at h
  simpa using h
def oT (to : Nat → Int32) (c p : Nat) : Nat := wkN to p + c + stN to p
def oS (td : XTd) (to : Nat → Int32) (c a g : Nat) : Nat := a + fb_sm (fun p => if g.testBit p = true then oT to c p else 0) (pN td)
def oC (td : XTd) (dy : XDy) (p s : Nat) : Nat := (f_X1_withRope dy (nI p) (f_X1_costOf td dy (nI p) (f_X1_stands td (nI p) (nI s) dy.2.2.2))).toNatClampNeg
theorem behind_num {td : XTd} {to : Nat → Int32} {dy : XDy} (hT : toldR td to) {c a g : Nat} (hc : dy.2.2.2 = nI c) (hg : g < 64) : f_X1_startBehind td dy (nI g) (nI a) = nI (oS td to c a g) := by
  have h6 : pN td ≤ 6 := hT.1
  unfold f_X1_startBehind oS
  rw [sumL (F := L_X1_startBehind_5 td dy (nI g)) (g := fun p => if (nI g &&& (nI 1 <<< (nI p &&& 31))) = 0 then nI 0 else ((f_X6_walkOf td (nI p)) + dy.2.2.2) + (f_X6_stayOf td (nI p))) (fun p => if g.testBit p = true then oT to c p else 0) (fun _ _ => rfl) (fun n k x => ?_) (pN td) 0 (nI a) (fun j _ h2 => ?_), nI_add]
  · congr 2
    exact fb_sm_cong (fun j _ => by rw [Nat.zero_add])
  · rw [L_X1_startBehind_5]
    by_cases z : (nI g &&& (nI 1 <<< (nI k &&& 31))) = 0
    · rw [if_pos z, if_pos z, nI_0, Int32.add_zero]
    · rw [if_neg z, if_neg z]
  · have hj : j < pN td := by omega
    have e := rope_iff (nI g) (p := j) (by omega)
    rw [bI_nI g hg j (by omega)] at e
    by_cases z : g.testBit j = true
    · rw [if_pos z, if_neg (fun y => by rw [e.mp y] at z; exact absurd z (by decide)), (told_walk hT hj).1, (told_stay hT hj).1, hc, nI_add, nI_add]
      rfl
    · rw [if_neg z, if_pos (e.mpr (Bool.not_eq_true _ |>.mp z))]
theorem oS_lt {td : XTd} {to : Nat → Int32} (hT : toldR td to) {c a g : Nat} (hc : c ≤ 9) (ha : a < 60) : oS td to c a g < 1000 := by
  have h6 : pN td ≤ 6 := hT.1
  unfold oS
  have := fb_sm_bound (f := fun p => if g.testBit p = true then oT to c p else 0) (c := 35) (n := pN td) (fun p hp => by
    split
    · have := (told_walk hT hp).2.2.2
      have := (told_stay hT hp).2.2.2
      unfold oT
      omega
    · omega)
  have h35 : pN td * 35 ≤ 6 * 35 := Nat.mul_le_mul_right _ h6
  omega
theorem oC_num {td : XTd} {to : Nat → Int32} {dy : XDy} {st : Nat → Int32} (hT : toldR td to) (hD : dayX (pN td) dy st) {p : Nat} (hp : p < pN td) (s : Nat) : f_X1_withRope dy (nI p) (f_X1_costOf td dy (nI p) (f_X1_stands td (nI p) (nI s) dy.2.2.2)) = nI (oC td dy p s) ∧ oC td dy p s ≤ 2400 := by
  have h6 : pN td ≤ 6 := hT.1
  have hF : fb_sm (fun i => if bL (f_X1_stands td (nI p) (nI s) dy.2.2.2) i = true then cN td to dy.2.1 p i else 0) 60 ≤ 60 * 40 := fb_sm_bound (fun i hi => by
    have := cN_le (p := p) hT hD.1 hi
    split
    · exact this
    · omega)
  have key : ∃ v, v ≤ 2400 ∧ f_X1_withRope dy (nI p) (f_X1_costOf td dy (nI p) (f_X1_stands td (nI p) (nI s) dy.2.2.2)) = nI v := by
    rw [costOf_num hT hp, withRope_eq (st := st) (by omega) (hD.2.2.1 p (by omega))]
    generalize fb_sm (fun i => if bL (f_X1_stands td (nI p) (nI s) dy.2.2.2) i = true then cN td to dy.2.1 p i else 0) 60 = F at hF
    split
    · rw [pk_div (by omega) (by decide) (by decide)]
      exact ⟨F / 2, by omega, rfl⟩
    · exact ⟨F, by omega, rfl⟩
  obtain ⟨v, hv, e⟩ := key
  have : oC td dy p s = v := by
    unfold oC
    rw [e]
    exact nI_clamp (by omega)
  rw [this]
  exact ⟨e, hv⟩
theorem lw_num {td : XTd} {to : Nat → Int32} {dy : XDy} {st : Nat → Int32} (hT : toldR td to) (hD : dayX (pN td) dy st) (lb : Nat → Int32) {g p s : Nat} (hg : g < 64) (hp : p < pN td) : f_X1_leastWithNext td dy lb (nI g) (nI p) (nI s) = if lb (g ||| 2 ^ p) = -1 then -1 else nI (oC td dy p s) + lb (g ||| 2 ^ p) := by
  have h6 : pN td ≤ 6 := hT.1
  obtain ⟨e1, e2, _⟩ := or_bit g hg p (by omega)
  unfold f_X1_leastWithNext
  rw [e1, if_neg (nI_pos (by omega)), if_neg (nI_ge e2 (by decide)), nI_clamp (by omega), (oC_num hT hD hp s).1]
/-- a step of the table looks at larger sets alone -/
theorem lor_cong {td : XTd} {to : Nat → Int32} {dy : XDy} {st : Nat → Int32} (hT : toldR td to) (hD : dayX (pN td) dy st) {lb lb' : Nat → Int32} {s g a : Nat} (hs : s < 64) (hg : g < 64) (h : ∀ p, p < 6 → insB s g p = true → lb (g ||| 2 ^ p) = lb' (g ||| 2 ^ p)) : f_X1_leastOfRest td dy lb (nI s) (nI g) (nI a) = f_X1_leastOfRest td dy lb' (nI s) (nI g) (nI a) := by
  have h6 : pN td ≤ 6 := hT.1
  obtain ⟨_, c, _, hc⟩ := day_clk hD
  have key : ∀ n k x, k + n ≤ pN td → L_X1_leastOfRest_23 td dy lb (nI s) (nI g) (nI a) n k x = L_X1_leastOfRest_23 td dy lb' (nI s) (nI g) (nI a) n k x := by
    intro n
    induction n with
    | zero => exact fun _ _ _ => rfl
    | succ n ih =>
      intro k x hk
      rw [L_X1_leastOfRest_23, L_X1_leastOfRest_23, behind_num hT hc hg, lw_num hT hD lb hg (by omega), lw_num hT hD lb' hg (by omega), ih (k + 1) x (by omega)]
      by_cases z : insB s g k = false
      · rw [if_pos ((ins_iff hs hg (by omega)).mpr z), if_pos ((ins_iff hs hg (by omega)).mpr z)]
      · rw [h k (by omega) (Bool.not_eq_false _ |>.mp z), ih (k + 1) _ (by omega)]
  unfold f_X1_leastOfRest
  rw [key (pN td) 0 _ (by omega)]
theorem sub_iff : ∀ j, j < 64 → ∀ s, s < 64 → ((nI j &&& (nI s ^^^ (-1 : Int32))) = 0 ↔ ∀ i, i < 6 → j.testBit i = true → s.testBit i = true) := by decide +kernel
theorem table_ok {td : XTd} {to : Nat → Int32} {dy : XDy} {st : Nat → Int32} (hT : toldR td to) (hD : dayX (pN td) dy st) {s a : Nat} (hs : s < 64) : ∀ n w, n ≤ 64 → (∀ j, n ≤ j → L_X1_leastInOrder_3 td dy (nI s) (nI a) n w j = w j) ∧ ∀ j, j < n → (∀ i, i < 6 → j.testBit i = true → s.testBit i = true) → L_X1_leastInOrder_3 td dy (nI s) (nI a) n w j = if j = s then nI 0 else f_X1_leastOfRest td dy (L_X1_leastInOrder_3 td dy (nI s) (nI a) n w) (nI s) (nI j) (nI a) := by
  intro n
  induction n with
  | zero => exact fun w _ => ⟨fun j _ => rfl, fun j hj => absurd hj (Nat.not_lt_zero j)⟩
  | succ n ih =>
    intro w hn
    rw [L_X1_leastInOrder_3]
    by_cases z : (nI n &&& (nI s ^^^ (-1 : Int32))) = 0
    · rw [if_pos z]
      obtain ⟨i1, i2⟩ := ih (upd w n (if nI n = nI s then nI 0 else f_X1_leastOfRest td dy w (nI s) (nI n) (nI a))) (by omega)
      generalize L_X1_leastInOrder_3 td dy (nI s) (nI a) n (upd w n (if nI n = nI s then nI 0 else f_X1_leastOfRest td dy w (nI s) (nI n) (nI a))) = w' at i1 i2 ⊢
      refine ⟨fun j hj => by rw [i1 j (by omega), pk_un (by omega)], fun j hj hsub => ?_⟩
      by_cases e : j = n
      · subst e
        rw [i1 j (Nat.le_refl j), pk_us]
        by_cases y : j = s
        · rw [if_pos y, if_pos (by rw [y])]
        · rw [if_neg y, if_neg (fun q => y ((nI_eq (by omega) (by omega)).mp q))]
          refine lor_cong hT hD hs (by omega) (fun p hp hi => ?_)
          have := (or_bit j (by omega) p hp).2.2 (ins_tb hi).2
          rw [i1 _ (by omega), pk_un (by omega)]
      · exact i2 j (by omega) hsub
    · rw [if_neg z]
      obtain ⟨i1, i2⟩ := ih w (by omega)
      refine ⟨fun j hj => i1 j (by omega), fun j hj hsub => ?_⟩
      by_cases e : j = n
      · subst e
        exact absurd ((sub_iff j (by omega) s hs).mpr hsub) z
      · exact i2 j (by omega) hsub
