/-! start, stays, rope, clock, sell, halve -/
theorem day_start {P : Nat} {dy : XDy} {st : Nat → Int32} (hD : dayX P dy st) {p : Nat} {x : Int32} (hp6 : p < 6) (hx : x = -1 ∨ (p < P ∧ ∃ s, s < 60 ∧ x = nI s)) : dayX P (f_X0_setStart dy (nI p) x) (upd st (60 + p) x) := by
  obtain ⟨a, b, c, d, e, f⟩ := hD
  obtain ⟨i1, i2, i3, i4⟩ := i6 hp6
  unfold f_X0_setStart
  rw [if_neg i1, if_neg i2, i4]
  refine ⟨ownR_cong (fun _ _ => rfl) (fun j hj => pk_un (by omega)) a, fun q hq => ?_, fun q hq => by rw [pk_un (by omega)]; exact c q hq, d, by rw [pk_un (by omega)]; exact e, f⟩
  (try dsimp only)
  by_cases z : q = p
  · subst z
    rw [pk_us, pk_us]
    exact ⟨rfl, hx⟩
  · rw [pk_un z, pk_un (by omega)]
    exact b q hq
theorem start_ok {td : XTd} {to : Nat → Int32} {dy : XDy} {pn : Nat × Nat} {ps : XSh} {st : Nat → Int32} {un : MUn} (hT : toldR td to) (hD : dayX (pN td) dy st) (hU : undoR (pN td) pn ps un) (pe sec : Int32) : (f_X7_start td dy pn ps pe sec).1 = (f_X8_start to st un pe sec).1 ∧ dayX (pN td) (f_X7_start td dy pn ps pe sec).2.1 (f_X8_start to st un pe sec).2.1 ∧ undoR (pN td) (f_X7_start td dy pn ps pe sec).2.2.1 (f_X7_start td dy pn ps pe sec).2.2.2 (f_X8_start to st un pe sec).2.2 := by
  have h6 : pN td ≤ 6 := hT.1
  unfold f_X7_start f_X8_start
  by_cases h : f_X6_knows td pe = 0
  · rw [if_pos h, if_pos ((knows_person hT pe).mp h)]
    exact ⟨rfl, hD, hU⟩
  · rw [if_neg h, if_neg (fun q => h ((knows_person hT pe).mpr q)), within_in sec (nI 0) (nI 59) (lo := 0) (hi := 59) (by decide +kernel) (by decide +kernel)]
    by_cases h2 : f_X8_in sec.toInt64 (0 : Int64) (59 : Int64) = 0
    · rw [if_pos h2, if_pos h2]
      exact ⟨rfl, hD, hU⟩
    · rw [if_neg h2, if_neg h2]
      obtain ⟨p, hp, e⟩ := (knows_iff h6 pe).mp h
      have hp : p < pN td := hp
      subst e
      obtain ⟨s, hs, e⟩ := in_ex (N := 60) (by decide +kernel) h2
      subst e
      rw [nI_clamp (by omega)]
      refine ⟨?_, day_start hD (by omega) (Or.inr ⟨hp, s, hs, rfl⟩), record_note hD hU⟩
      obtain ⟨i1, i2, i3, i4⟩ := i6 (p := p) (by omega)
      unfold f_X8_thereBy f_X0_setStart
      rw [if_neg i1, if_neg i2, (told_walk hT hp).1, (told_walk hT hp).2.1, pk_un (by omega), (day_clk hD).1]
theorem stays_ok {td : XTd} {to : Nat → Int32} {dy : XDy} {pn : Nat × Nat} {ps : XSh} {st : Nat → Int32} {un : MUn} (hT : toldR td to) (hD : dayX (pN td) dy st) (hU : undoR (pN td) pn ps un) (pe : Int32) : (f_X7_stays td dy pn ps pe).1 = (f_X8_stays to st un pe).1 ∧ dayX (pN td) (f_X7_stays td dy pn ps pe).2.1 (f_X8_stays to st un pe).2.1 ∧ undoR (pN td) (f_X7_stays td dy pn ps pe).2.2.1 (f_X7_stays td dy pn ps pe).2.2.2 (f_X8_stays to st un pe).2.2 := by
  have h6 : pN td ≤ 6 := hT.1
  unfold f_X7_stays f_X8_stays
  by_cases h : f_X6_knows td pe = 0
  · rw [if_pos h, if_pos ((knows_person hT pe).mp h)]
    exact ⟨rfl, hD, hU⟩
  · rw [if_neg h, if_neg (fun q => h ((knows_person hT pe).mpr q))]
    obtain ⟨p, hp, e⟩ := (knows_iff h6 pe).mp h
    have hp : p < pN td := hp
    subst e
    have hb := hD.2.1 p (by omega)
    rw [nI_clamp (by omega), start_of (by omega), hb.1]
    rcases hb.2 with e | ⟨_, s, hs, e⟩
    · rw [if_pos e, if_neg (by rw [e]; decide)]
      exact ⟨rfl, hD, hU⟩
    · rw [if_neg (fun z => nI_pos (n := s) (by omega) (by rw [← e, z]; decide)), if_pos (by rw [e]; exact nI_pos' (by omega))]
      exact ⟨rfl, day_start hD (by omega) (Or.inl rfl), record_note hD hU⟩
theorem clock_ok {P : Nat} {dy : XDy} {pn : Nat × Nat} {ps : XSh} {st : Nat → Int32} {un : MUn} (hD : dayX P dy st) (hU : undoR P pn ps un) (kk : Int32) : (f_X7_clock dy pn ps kk).1 = (f_X8_clock st un kk).1 ∧ dayX P (f_X7_clock dy pn ps kk).2.1 (f_X8_clock st un kk).2.1 ∧ undoR P (f_X7_clock dy pn ps kk).2.2.1 (f_X7_clock dy pn ps kk).2.2.2 (f_X8_clock st un kk).2.2 := by
  unfold f_X7_clock f_X8_clock
  rw [within_in kk (nI 0) (nI 9) (lo := 0) (hi := 9) (by decide +kernel) (by decide +kernel)]
  by_cases h : f_X8_in kk.toInt64 (0 : Int64) (9 : Int64) = 0
  · rw [if_pos h, if_pos h]
    exact ⟨rfl, hD, hU⟩
  · rw [if_neg h, if_neg h]
    obtain ⟨k, hk, e⟩ := in_ex (N := 10) (by decide +kernel) h
    subst e
    refine ⟨(day_clk hD).1.symm, ?_, record_note hD hU⟩
    obtain ⟨a, b, c, d, e, f⟩ := hD
    exact ⟨ownR_cong (fun _ _ => rfl) (fun j hj => pk_un (by omega)) a, fun q hq => by (try dsimp only); rw [pk_un (by omega)]; exact b q hq, fun q hq => by (try dsimp only); rw [pk_un (by omega)]; exact c q hq, d, (show upd st 72 (nI k) 72 = nI k from pk_us), k, by omega, rfl⟩
theorem bI_m1 {i : Nat} (h : i < 32) : bI (-1) i = true := by
  have : ∀ i, i < 32 → bI (-1) i = true := by decide +kernel
  exact this i h
theorem bI_big {x : Int32} {i : Nat} (h : 32 ≤ i) : bI x i = false := by unfold bI; exact BitVec.getLsbD_of_ge _ _ h
theorem rope_ok {td : XTd} {to : Nat → Int32} {dy : XDy} {pn : Nat × Nat} {ps : XSh} {st : Nat → Int32} {un : MUn} (hT : toldR td to) (hD : dayX (pN td) dy st) (hU : undoR (pN td) pn ps un) (pe on : Int32) : (f_X7_rope td dy pn ps pe on).1 = (f_X8_rope to st un pe on).1 ∧ dayX (pN td) (f_X7_rope td dy pn ps pe on).2.1 (f_X8_rope to st un pe on).2.1 ∧ undoR (pN td) (f_X7_rope td dy pn ps pe on).2.2.1 (f_X7_rope td dy pn ps pe on).2.2.2 (f_X8_rope to st un pe on).2.2 := by
  have h6 : pN td ≤ 6 := hT.1
  unfold f_X7_rope f_X8_rope
  by_cases h : f_X6_knows td pe = 0
  · rw [if_pos h, if_pos ((knows_person hT pe).mp h)]
    exact ⟨rfl, hD, hU⟩
  · rw [if_neg h, if_neg (fun q => h ((knows_person hT pe).mpr q)), within_in on (nI 0) (nI 1) (lo := 0) (hi := 1) (by decide +kernel) (by decide +kernel)]
    by_cases h2 : f_X8_in on.toInt64 (0 : Int64) (1 : Int64) = 0
    · rw [if_pos h2, if_pos h2]
      exact ⟨rfl, hD, hU⟩
    · rw [if_neg h2, if_neg h2]
      obtain ⟨p, hp, e⟩ := (knows_iff h6 pe).mp h
      have hp : p < pN td := hp
      subst e
      obtain ⟨s, hs, e⟩ := in_ex (N := 2) (by decide +kernel) h2
      subst e
      rw [nI_clamp (by omega), isRoped_eq (by omega)]
      refine ⟨(hD.2.2.1 p (by omega)).symm, ?_, record_note hD hU⟩
      obtain ⟨a, b, c, d, e, f⟩ := hD
      have hro : ∀ i, bI (f_X0_setRope dy (nI p) (if nI s = nI 1 then nI 1 else nI 0)).2.2.1 i = if i = p then decide (s = 1) else bI dy.2.2.1 i := by
        intro i
        by_cases hi : i < 32
        · unfold f_X0_setRope
          (try dsimp only)
          have : s = 0 ∨ s = 1 := by omega
          rcases this with rfl | rfl
          · rw [if_pos (by decide), bI_and, bI_xor, bI_m1 hi, bI_one p (by omega) i hi]
            by_cases z : i = p
            · simp [z]
            · simp [z]
          · rw [if_neg (by decide), bI_or, bI_one p (by omega) i hi]
            by_cases z : i = p
            · simp [z]
            · simp [z]
        · rw [bI_big (by omega), bI_big (by omega), if_neg (by omega)]
      refine ⟨ownR_cong (fun _ _ => rfl) (fun j hj => pk_un (by omega)) a, fun q hq => by (try dsimp only); rw [pk_un (by omega)]; exact b q hq, fun q hq => ?_, fun q hq => ?_, by (try dsimp only); rw [pk_un (by omega)]; exact e, f⟩
      · rw [hro]
        (try dsimp only)
        by_cases z : q = p
        · subst z
          rw [pk_us, if_pos rfl]
          have : s = 0 ∨ s = 1 := by omega
          rcases this with rfl | rfl
          · rfl
          · rfl
        · rw [pk_un (by omega), if_neg z]
          exact c q hq
      · rw [hro, if_neg (by omega)]
        exact d q hq
theorem give_val (sx : Int64) (who : Int32) (la : Nat → Int64) {j : Nat} (hj : j < 6) : L_X0_give_3 sx who 6 0 la j = if nI j = who then la j ||| sx else la j &&& (sx ^^^ (-1 : Int64)) := by
  rw [fillG (F := L_X0_give_3 sx who) (g := fun k x => if nI k = who then x ||| sx else x &&& (sx ^^^ (-1 : Int64))) (fun _ _ => rfl) (fun _ _ _ => rfl) 6 0 la j, if_pos (by omega)]
/-- seconds given to one, or to nobody -/
theorem own_give {P : Nat} {la la' : Nat → Int64} {ow ow' : Nat → Int32} {sx : Int64} {who : Int32} (h6 : P ≤ 6) (ho : ownR P la ow) (hw : who = -1 ∨ ∃ q, q < P ∧ who = nI q) (h60 : ∀ s, 60 ≤ s → bL sx s = false) (hv : ∀ j, j < 6 → la' j = if nI j = who then la j ||| sx else la j &&& (sx ^^^ (-1 : Int64))) (hw' : ∀ s, s < 60 → ow' s = if bL sx s = true then who else ow s) : ownR P la' ow' := by
  have hbit : ∀ j, j < 6 → ∀ s, s < 64 → bL (la' j) s = if nI j = who then (bL (la j) s || bL sx s) else (bL (la j) s && !bL sx s) := by
    intro j hj s hs
    rw [hv j hj]
    by_cases e : nI j = who
    · rw [if_pos e, if_pos e, bL_or]
    · rw [if_neg e, if_neg e, bL_and, bL_xor, bL_m1 hs, Bool.xor_true]
  refine ⟨fun s hs => ?_, fun p hp s hs => ?_⟩
  · rw [hw' s hs]
    by_cases hb : bL sx s = true
    · rw [if_pos hb]
      rcases hw with e | ⟨q, hq, e⟩
      · refine Or.inl ⟨e, fun p hp => ?_⟩
        rw [hbit p hp s (by omega), if_neg (fun z => nI_pos (n := p) (by omega) (by rw [z, e]; decide)), hb]
        simp
      · refine Or.inr ⟨q, hq, e, fun p hp => ?_⟩
        rw [hbit p hp s (by omega), hb]
        by_cases z : p = q
        · rw [if_pos (by rw [z, e]), decide_eq_true z, Bool.or_true]
        · rw [if_neg (fun y => z ((nI_eq (by omega) (by omega)).mp (y.trans e))), decide_eq_false z]
          simp
    · rw [if_neg hb]
      have hk : ∀ p, p < 6 → bL (la' p) s = bL (la p) s := fun p hp => by
        rw [hbit p hp s (by omega), Bool.not_eq_true _ |>.mp hb]
        simp
      rcases ho.1 s hs with ⟨a, b⟩ | ⟨q, hq, a, b⟩
      · exact Or.inl ⟨a, fun p hp => by rw [hk p hp]; exact b p hp⟩
      · exact Or.inr ⟨q, hq, a, fun p hp => by rw [hk p hp]; exact b p hp⟩
  · by_cases h64 : s < 64
    · rw [hbit p hp s h64, h60 s hs, ho.2 p hp s hs]
      simp
    · exact bL_big (by omega)
theorem day_give {P : Nat} {dy : XDy} {st st' : Nat → Int32} {sx : Int64} {who : Int32} (h6 : P ≤ 6) (hD : dayX P dy st) (hw : who = -1 ∨ ∃ q, q < P ∧ who = nI q) (h60 : ∀ s, 60 ≤ s → bL sx s = false) (hw' : ∀ s, s < 60 → st' s = if bL sx s = true then who else st s) (hr : ∀ s, 60 ≤ s → st' s = st s) : dayX P (f_X0_give dy sx who) st' := by
  obtain ⟨a, b, c, d, e, f⟩ := hD
  exact ⟨own_give h6 a hw h60 (fun j hj => give_val sx who dy.2.1 hj) hw', fun p hp => by rw [hr _ (by omega)]; exact b p hp, fun p hp => by rw [hr _ (by omega)]; exact c p hp, d, by rw [hr _ (by omega)]; exact e, f⟩
theorem sell_core {td : XTd} {dy : XDy} {pn : Nat × Nat} {ps : XSh} {st : Nat → Int32} {un : MUn} (h6 : pN td ≤ 6) (hD : dayX (pN td) dy st) (hU : undoR (pN td) pn ps un) {pe sec : Int32} (hw : pe = -1 ∨ ∃ q, q < pN td ∧ pe = nI q) (A : Int32 × XDy × (Nat × Nat) × XSh) (B : Int32 × (Nat → Int32) × MUn) (hA : A = (if (f_X7_isWithin sec (nI 0) (nI 59)) = 0 then ((-3 : Int32), dy, pn, ps) else (if (f_X0_ownerOf dy sec) = pe then ((-4 : Int32), dy, pn, ps) else ((f_X0_ownerOf dy sec), (f_X0_give dy ((1 : Int64) <<< (sec.toInt64 &&& 63)) pe), ((f_X2_record dy pn ps).1), ((f_X2_record dy pn ps).2))))) (hB : B = (if (f_X8_in sec.toInt64 (0 : Int64) (59 : Int64)) = 0 then ((-3 : Int32), st, un) else (if (st sec.toNatClampNeg) = pe then ((-4 : Int32), st, un) else ((st sec.toNatClampNeg), (upd st sec.toNatClampNeg pe), (f_X8_note st un))))) : A.1 = B.1 ∧ dayX (pN td) A.2.1 B.2.1 ∧ undoR (pN td) A.2.2.1 A.2.2.2 B.2.2 := by
  rw [within_in sec (nI 0) (nI 59) (lo := 0) (hi := 59) (by decide +kernel) (by decide +kernel)] at hA
  by_cases h2 : f_X8_in sec.toInt64 (0 : Int64) (59 : Int64) = 0
  · rw [if_pos h2] at hA hB
    rw [hA, hB]
    exact ⟨rfl, hD, hU⟩
  · rw [if_neg h2] at hA hB
    obtain ⟨s, hs, e⟩ := in_ex (N := 60) (by decide +kernel) h2
    subst e
    rw [owner_eq h6 hD.1 hs] at hA
    rw [nI_clamp (by omega)] at hB
    by_cases h3 : st s = pe
    · rw [if_pos h3] at hA hB
      rw [hA, hB]
      exact ⟨rfl, hD, hU⟩
    · rw [if_neg h3] at hA hB
      rw [hA, hB]
      refine ⟨rfl, day_give h6 hD hw (fun i hi => ?_) (fun i hi => ?_) (fun i hi => pk_un (by omega)), record_note hD hU⟩
      · by_cases h64 : i < 64
        · rw [bL_one s (by omega) i h64, decide_eq_false (by omega)]
        · exact bL_big (by omega)
      · rw [bL_one s (by omega) i (by omega)]
        show upd st s pe i = _
        by_cases z : i = s
        · rw [z, pk_us, decide_eq_true rfl, if_pos rfl]
        · rw [pk_un z, decide_eq_false z]
          rfl
theorem sell_ok {td : XTd} {to : Nat → Int32} {dy : XDy} {pn : Nat × Nat} {ps : XSh} {st : Nat → Int32} {un : MUn} (hT : toldR td to) (hD : dayX (pN td) dy st) (hU : undoR (pN td) pn ps un) (sec pe : Int32) : (f_X7_sell td dy pn ps sec pe).1 = (f_X8_sell to st un sec pe).1 ∧ dayX (pN td) (f_X7_sell td dy pn ps sec pe).2.1 (f_X8_sell to st un sec pe).2.1 ∧ undoR (pN td) (f_X7_sell td dy pn ps sec pe).2.2.1 (f_X7_sell td dy pn ps sec pe).2.2.2 (f_X8_sell to st un sec pe).2.2 := by
  have h6 : pN td ≤ 6 := hT.1
  by_cases h1 : pe = -1
  · exact sell_core h6 hD hU (sec := sec) (Or.inl h1) _ _ (by unfold f_X7_sell; rw [if_pos h1]) (by unfold f_X8_sell; rw [if_pos h1])
  · by_cases h : f_X6_knows td pe = 0
    · unfold f_X7_sell f_X8_sell
      rw [if_neg h1, if_neg h1, if_pos h, if_pos ((knows_person hT pe).mp h)]
      exact ⟨rfl, hD, hU⟩
    · exact sell_core h6 hD hU (sec := sec) (Or.inr ((knows_iff h6 pe).mp h)) _ _ (by unfold f_X7_sell; rw [if_neg h1, if_neg h]) (by unfold f_X8_sell; rw [if_neg h1, if_neg (fun q => h ((knows_person hT pe).mpr q))])
/-- of one's seconds each other one, from the second one on -/
def cho (l : Nat → Bool) (j : Nat) : Bool := l j && decide (fb_ct l j % 2 = 1)
theorem each_bit (x : Int64) (i : Nat) (hi : i < 64) : ∀ (n k : Nat) (y : Int64), k + n ≤ 60 → bL (L_X7_eachOther_8 x n k (nI (fb_ct (bL x) k % 2)) y).2 i = (bL y i || (decide (k ≤ i ∧ i < k + n) && cho (bL x) i))
  | 0, k, y, _ => by
    rw [L_X7_eachOther_8, decide_eq_false (by omega), Bool.false_and, Bool.or_false]
  | n + 1, k, y, h => by
    rw [L_X7_eachOther_8]
    have hk := bit_iff x (s := k) (by omega)
    have h2 : fb_ct (bL x) k % 2 = 0 ∨ fb_ct (bL x) k % 2 = 1 := by omega
    by_cases c : bL x k = false
    · have es : fb_ct (bL x) (k + 1) = fb_ct (bL x) k := by rw [fb_ct_succ, c]; rfl
      rw [if_pos (hk.mpr c), ← es, each_bit x i hi n (k + 1) y (by omega)]
      congr 1
      by_cases e : i = k
      · subst e
        unfold cho
        rw [c, Bool.false_and, Bool.and_false, Bool.and_false]
      · congr 1
        rw [decide_eq_decide]
        omega
    · have ct : bL x k = true := Bool.not_eq_false _ |>.mp c
      have es : fb_ct (bL x) (k + 1) = fb_ct (bL x) k + 1 := by rw [fb_ct_succ, ct]; rfl
      rw [if_neg (fun z => c (hk.mp z))]
      rcases h2 with h2 | h2
      · have e2 : nI 1 = nI (fb_ct (bL x) (k + 1) % 2) := by
          congr 1
          omega
        rw [if_pos (by rw [h2]; exact nI_0), e2, each_bit x i hi n (k + 1) y (by omega)]
        congr 1
        by_cases e : i = k
        · subst e
          unfold cho
          rw [h2, decide_eq_false (p := (0 : Nat) = 1) (by decide), Bool.and_false, Bool.and_false, Bool.and_false]
        · congr 1
          rw [decide_eq_decide]
          omega
      · have e2 : nI 0 = nI (fb_ct (bL x) (k + 1) % 2) := by
          congr 1
          omega
        rw [if_neg (by rw [h2]; decide), e2, each_bit x i hi n (k + 1) _ (by omega), bL_or, bL_one k (by omega) i hi, Bool.or_assoc]
        congr 1
        by_cases e : i = k
        · subst e
          unfold cho
          rw [h2, ct, decide_eq_true rfl, decide_eq_true (p := i ≤ i ∧ i < i + (n + 1)) (by omega)]
          rfl
        · rw [decide_eq_false e, Bool.false_or]
          congr 1
          rw [decide_eq_decide]
          omega
theorem halve_loop {l : Nat → Bool} {p : Nat} {ot : Int32} : ∀ (n k : Nat) (w : Nat → Int32), k + n ≤ 60 → (∀ j, k ≤ j → j < k + n → (w j = nI p ↔ l j = true)) → (L_X8_halve_48 (nI p) ot n k (nI (fb_ct (cho l) k)) (nI (fb_ct l k)) w).1 = nI (fb_ct (cho l) (k + n)) ∧ ∀ j, (L_X8_halve_48 (nI p) ot n k (nI (fb_ct (cho l) k)) (nI (fb_ct l k)) w).2.2 j = if (k ≤ j ∧ j < k + n) ∧ cho l j = true then ot else w j
  | 0, k, w, _, _ => by
    rw [L_X8_halve_48]
    exact ⟨rfl, fun j => by rw [if_neg (by omega)]⟩
  | n + 1, k, w, h, hw => by
    rw [L_X8_halve_48]
    have hle := fb_ct_le l k
    by_cases c : l k = true
    · have es : fb_ct l (k + 1) = fb_ct l k + 1 := by rw [fb_ct_succ, c]; rfl
      rw [if_pos ((hw k (Nat.le_refl k) (by omega)).mpr c), nI_1, pk_rem (by omega) (by decide) (by decide), ← es]
      by_cases h2 : fb_ct l k % 2 = 1
      · have ec : cho l k = true := by
          unfold cho
          rw [c, decide_eq_true h2]
          rfl
        have ecs : fb_ct (cho l) (k + 1) = fb_ct (cho l) k + 1 := by rw [fb_ct_succ, ec]; rfl
        rw [if_pos (by rw [nI_z (by omega)]; omega), nI_1, ← ecs]
        have ih := halve_loop (ot := ot) n (k + 1) (upd w k ot) (by omega) (fun j h1 h3 => by rw [pk_un (by omega)]; exact hw j (by omega) (by omega))
        refine ⟨by rw [ih.1]; congr 2; omega, fun j => ?_⟩
        rw [ih.2 j]
        by_cases e : j = k
        · subst e
          rw [if_neg (by omega), pk_us, if_pos ⟨by omega, ec⟩]
        · rw [pk_un e]
          by_cases d : (k + 1 ≤ j ∧ j < k + 1 + n) ∧ cho l j = true
          · rw [if_pos d, if_pos ⟨by omega, d.2⟩]
          · rw [if_neg d, if_neg (fun z => d ⟨by omega, z.2⟩)]
      · have ec : cho l k = false := by
          unfold cho
          rw [decide_eq_false h2, Bool.and_false]
        have ecs : fb_ct (cho l) (k + 1) = fb_ct (cho l) k := by rw [fb_ct_succ, ec]; rfl
        rw [if_neg (by rw [nI_z (by omega)]; omega), ← ecs]
        have ih := halve_loop (ot := ot) n (k + 1) w (by omega) (fun j h1 h3 => hw j (by omega) (by omega))
        refine ⟨by rw [ih.1]; congr 2; omega, fun j => ?_⟩
        rw [ih.2 j]
        by_cases e : j = k
        · subst e
          rw [if_neg (by omega), if_neg (fun z => by rw [ec] at z; exact absurd z.2 (by decide))]
        · by_cases d : (k + 1 ≤ j ∧ j < k + 1 + n) ∧ cho l j = true
          · rw [if_pos d, if_pos ⟨by omega, d.2⟩]
          · rw [if_neg d, if_neg (fun z => d ⟨by omega, z.2⟩)]
    · have es : fb_ct l (k + 1) = fb_ct l k := by rw [fb_ct_succ, Bool.not_eq_true _ |>.mp c]; rfl
      have ec : cho l k = false := by
        unfold cho
        rw [Bool.not_eq_true _ |>.mp c, Bool.false_and]
      have ecs : fb_ct (cho l) (k + 1) = fb_ct (cho l) k := by rw [fb_ct_succ, ec]; rfl
      rw [if_neg (fun z => c ((hw k (Nat.le_refl k) (by omega)).mp z)), ← ecs, ← es]
      have ih := halve_loop (ot := ot) n (k + 1) w (by omega) (fun j h1 h3 => hw j (by omega) (by omega))
      refine ⟨by rw [ih.1]; congr 2; omega, fun j => ?_⟩
      rw [ih.2 j]
      by_cases e : j = k
      · subst e
        rw [if_neg (by omega), if_neg (fun z => by rw [ec] at z; exact absurd z.2 (by decide))]
      · by_cases d : (k + 1 ≤ j ∧ j < k + 1 + n) ∧ cho l j = true
        · rw [if_pos d, if_pos ⟨by omega, d.2⟩]
        · rw [if_neg d, if_neg (fun z => d ⟨by omega, z.2⟩)]
theorem halve_ok {td : XTd} {to : Nat → Int32} {dy : XDy} {pn : Nat × Nat} {ps : XSh} {st : Nat → Int32} {un : MUn} (hT : toldR td to) (hD : dayX (pN td) dy st) (hU : undoR (pN td) pn ps un) (pe ot : Int32) : (f_X7_halve td dy pn ps pe ot).1 = (f_X8_halve to st un pe ot).1 ∧ dayX (pN td) (f_X7_halve td dy pn ps pe ot).2.1 (f_X8_halve to st un pe ot).2.1 ∧ undoR (pN td) (f_X7_halve td dy pn ps pe ot).2.2.1 (f_X7_halve td dy pn ps pe ot).2.2.2 (f_X8_halve to st un pe ot).2.2 := by
  have h6 : pN td ≤ 6 := hT.1
  unfold f_X7_halve f_X8_halve
  rw [two_iff hT]
  by_cases h1 : f_X8_isPerson to pe = 0
  · rw [if_pos h1, if_pos h1]
    exact ⟨rfl, hD, hU⟩
  · by_cases h2 : f_X8_isPerson to ot = 0
    · rw [if_neg h1, if_neg h1, if_pos h2, if_pos h2]
      exact ⟨rfl, hD, hU⟩
    · by_cases h3 : pe = ot
      · rw [if_neg h1, if_neg h1, if_neg h2, if_neg h2, if_pos h3, if_pos h3]
        exact ⟨rfl, hD, hU⟩
      · rw [if_neg h1, if_neg h1, if_neg h2, if_neg h2, if_neg h3, if_neg h3]
        obtain ⟨p, hp, e⟩ := (knows_iff h6 pe).mp (fun q => h1 ((knows_person hT pe).mp q))
        have ho := (knows_iff h6 ot).mp (fun q => h2 ((knows_person hT ot).mp q))
        have hp : p < pN td := hp
        subst e
        rw [land_of (by omega), land_ct hD.1 (by omega), ownMany_num h6 hD.1 (by omega)]
        by_cases h4 : nI 2 ≤ nI (fb_ct (bL (dy.2.1 p)) 60)
        · rw [if_pos h4, if_pos h4]
          have hl := halve_loop (l := bL (dy.2.1 p)) (p := p) (ot := ot) 60 0 st (by omega) (fun j _ hj => own_iff h6 hD.1 (by omega) (by omega))
          have he : ∀ i, i < 64 → bL (f_X7_eachOther (dy.2.1 p)) i = (decide (i < 60) && cho (bL (dy.2.1 p)) i) := fun i hi => by
            have := each_bit (dy.2.1 p) i hi 60 0 0 (by omega)
            rw [bL_0, Bool.false_or] at this
            unfold f_X7_eachOther
            refine Eq.trans this ?_
            congr 1
            rw [decide_eq_decide]
            omega
          refine ⟨?_, day_give h6 hD (Or.inr ho) (fun i hi => ?_) (fun i hi => ?_) (fun i hi => ?_), record_note hD hU⟩
          · rw [bitCount_eq, ct_cut (m := 60) (by decide) (fun k h1 h2 => by rw [he k h2, decide_eq_false (by omega)]; rfl)]
            refine Eq.trans ?_ hl.1.symm
            show nI (fb_ct (bL (f_X7_eachOther (dy.2.1 p))) 60) = nI (fb_ct (cho (bL (dy.2.1 p))) 60)
            congr 1
            exact fb_ct_cong (fun i hi => by rw [he i (by omega), decide_eq_true (by omega), Bool.true_and])
          · by_cases h64 : i < 64
            · rw [he i h64, decide_eq_false (by omega)]
              rfl
            · exact bL_big (by omega)
          · refine Eq.trans (hl.2 i) ?_
            rw [he i (by omega), decide_eq_true hi, Bool.true_and]
            by_cases c : cho (bL (dy.2.1 p)) i = true
            · rw [if_pos c, if_pos ⟨by omega, c⟩]
            · rw [if_neg c, if_neg (fun z => c z.2)]
          · exact Eq.trans (hl.2 i) (if_neg (by omega))
        · rw [if_neg h4, if_neg h4]
          exact ⟨rfl, hD, hU⟩
