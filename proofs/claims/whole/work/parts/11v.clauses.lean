/-! clauses -/
theorem ownR_mono {P P' : Nat} {la : Nat → Int64} {w : Nat → Int32} (hP : P ≤ P') (h : ownR P la w) : ownR P' la w := by
  refine ⟨fun s hs => ?_, h.2⟩
  rcases h.1 s hs with a | ⟨q, hq, a, b⟩
  · exact Or.inl a
  · exact Or.inr ⟨q, by omega, a, b⟩
theorem toldR_cong {td td' : XTd} {to to' : Nat → Int32} (hP : pN td' = pN td) (h1 : ∀ p, p < 6 → td'.1 p = td.1 p) (h2 : ∀ p, p < 6 → td'.2.1 p = td.2.1 p) (h3 : ∀ p, p < 6 → td'.2.2.1 p = td.2.2.1 p) (h4 : ∀ p, p < 6 → td'.2.2.2.1 p = td.2.2.2.1 p) (h5 : ∀ p, p < 6 → td'.2.2.2.2.1 p = td.2.2.2.2.1 p) (h6 : td'.2.2.2.2.2.2 = td.2.2.2.2.2.2) (h7 : ∀ j, j < 145 → to' j = to j) (h : toldR td to) : toldR td' to' := by
  obtain ⟨a, b, c, d, e, f⟩ := h
  have a' : pN td ≤ 6 := a
  refine ⟨by show pN td' ≤ 6; omega, by show to' 0 = nI (pN td'); rw [hP, h7 0 (by omega)]; exact b, fun p hp => ?_, ?_, fun s hs => ?_, fun s hs => by rw [h6]; exact f s hs⟩
  · have hp : p < pN td := by
      have : p < pN td' := hp
      omega
    rw [h7 _ (by omega), h7 _ (by omega), h7 _ (by omega), h7 _ (by omega), h1 p (by omega), h2 p (by omega), h3 p (by omega), h4 p (by omega)]
    exact c p hp
  · show ownR (pN td') _ _
    rw [hP]
    exact ownR_cong h5 (fun j hj => h7 _ (by omega)) d
  · rw [h6, h7 _ (by omega)]
    exact e s hs
theorem num_rng {tx : XTx} {l : Nat} {hi : Int32} : (f_X5_readNumber tx (nI l) hi).1 = -1 ∨ (l < 2 ^ 31 → ∃ v, v < 2 ^ 31 ∧ (f_X5_readNumber tx (nI l) hi).1 = nI v ∧ l ≤ v ∧ nI v ≤ hi) := by
  unfold f_X5_readNumber
  generalize f_X5_step tx = t
  split
  · split
    · generalize L_X5_readNumber_35 t (t.2.2.2.1 - t.2.2.1) t.2.2.1 (nI 0) = N
      (try dsimp only)
      by_cases c : f_X7_isWithin N (nI l) hi = 0
      · exact Or.inl (if_pos c)
      · refine Or.inr (fun hl => ?_)
        rw [if_neg c]
        have hc := Decidable.not_not.mp (fun z => c (isw_iff.mpr z))
        have h0 : ¬ N < 0 := fun z => by
          have h1 := hc.1
          rw [Int32.le_iff_toInt_le, nI_toInt hl] at h1
          rw [Int32.lt_iff_toInt_lt, Int32.toInt_zero] at z
          omega
        obtain ⟨v, hv, e⟩ := nI_of h0
        subst e
        exact ⟨v, hv, rfl, (nI_leI hl hv).mp hc.1, hc.2⟩
    · exact Or.inl rfl
  · exact Or.inl rfl
theorem ge0 {v : Nat} (h : v < 2 ^ 31) : 0 ≤ nI v ∧ ¬ nI v = -1 ∧ ¬ nI v < 0 := ⟨nI_pos' h, fun z => nI_pos h (by rw [z]; decide), nI_pos h⟩
/-- a number read on both sides: none, or the same within its bounds -/
theorem num_both {tx : XTx} {mt : MTx} (h : tokR tx mt) {l : Nat} {hi : Int32} (hl : l < 100) (hh : hi.toInt < 999) : tkR (f_X5_readNumber tx (nI l) hi).2 (f_X8_number mt (nI l) hi).2 ∧ (((f_X5_readNumber tx (nI l) hi).1 = -1 ∧ (f_X8_number mt (nI l) hi).1 = -1) ∨ ∃ v, (f_X5_readNumber tx (nI l) hi).1 = nI v ∧ (f_X8_number mt (nI l) hi).1 = nI v ∧ v < 2 ^ 31 ∧ l ≤ v ∧ nI v ≤ hi) := by
  obtain ⟨e, t⟩ := number_eq (lo := nI l) h hh
  refine ⟨t, ?_⟩
  rcases num_rng (tx := tx) (l := l) (hi := hi) with z | z
  · exact Or.inl ⟨z, by rw [← e]; exact z⟩
  · obtain ⟨v, a, b, c, d⟩ := z (by omega)
    exact Or.inr ⟨v, b, by rw [← e]; exact b, a, c, d⟩
theorem told_add {dr : XTd} {rd : Nat → Int32} (hd : toldR dr rd) (h6 : pN dr < 6) {ki a b c : Nat} (hk : ki ≤ 3) (ha : 1 ≤ a ∧ a ≤ 20) (hb : 1 ≤ b ∧ b ≤ 6) (hc : c ≤ 20) : toldR (f_X6_add dr (nI ki) (nI a) (nI b) (nI c)) (upd (upd (upd (upd (upd rd (1 + (mN rd)) (nI ki)) (7 + (mN rd)) (nI a)) (13 + (mN rd)) (nI b)) (19 + (mN rd)) (nI c)) 0 (((upd (upd (upd (upd rd (1 + (mN rd)) (nI ki)) (7 + (mN rd)) (nI a)) (13 + (mN rd)) (nI b)) (19 + (mN rd)) (nI c)) 0) + (nI 1))) := by
  obtain ⟨_, hm, _⟩ := told_m hd
  obtain ⟨x1, x2, x3, x4, x5, x6⟩ := hd
  rw [hm]
  unfold f_X6_add
  rw [if_pos (show dr.2.2.2.2.2.1 < 6 from h6)]
  have hv : ∀ j, j ≠ 0 → j ≠ 1 + pN dr → j ≠ 7 + pN dr → j ≠ 13 + pN dr → j ≠ 19 + pN dr → upd (upd (upd (upd (upd rd (1 + (pN dr)) (nI ki)) (7 + (pN dr)) (nI a)) (13 + (pN dr)) (nI b)) (19 + (pN dr)) (nI c)) 0 (((upd (upd (upd (upd rd (1 + (pN dr)) (nI ki)) (7 + (pN dr)) (nI a)) (13 + (pN dr)) (nI b)) (19 + (pN dr)) (nI c)) 0) + (nI 1)) j = rd j := by
    intro j j0 j1 j2 j3 j4
    rw [pk_un j0, pk_un j4, pk_un j3, pk_un j2, pk_un j1]
  refine ⟨by show pN dr + 1 ≤ 6; omega, ?_, fun p hp => ?_, ?_, fun s hs => ?_, x6⟩
  · (try dsimp only)
    rw [pk_us, pk_un (by omega), pk_un (by omega), pk_un (by omega), pk_un (by omega), x2]
    exact nI_add _ 1
  · (try dsimp only at hp ⊢)
    by_cases e : p = pN dr
    · subst e
      refine ⟨⟨?_, ?_, ?_, ?_⟩, ⟨ki, hk, pk_us⟩, ⟨a, ha.1, ha.2, pk_us⟩, ⟨b, hb.1, hb.2, pk_us⟩, ⟨c, hc, pk_us⟩⟩
      · rw [pk_un (by omega), pk_un (by omega), pk_un (by omega), pk_un (by omega), pk_us]
        exact pk_us.symm
      · rw [pk_un (by omega), pk_un (by omega), pk_un (by omega), pk_us]
        exact pk_us.symm
      · rw [pk_un (by omega), pk_un (by omega), pk_us]
        exact pk_us.symm
      · rw [pk_un (by omega), pk_us]
        exact pk_us.symm
    · have hp2 : p < pN dr := by
        have : p < pN dr + 1 := hp
        omega
      rw [hv _ (by omega) (by omega) (by omega) (by omega) (by omega), hv _ (by omega) (by omega) (by omega) (by omega) (by omega), hv _ (by omega) (by omega) (by omega) (by omega) (by omega), hv _ (by omega) (by omega) (by omega) (by omega) (by omega), pk_un e, pk_un e, pk_un e, pk_un e]
      exact x3 p hp2
  · exact ownR_mono (Nat.le_succ _) (ownR_cong (fun _ _ => rfl) (fun j hj => hv _ (by omega) (by omega) (by omega) (by omega) (by omega)) x4)
  · rw [hv _ (by omega) (by omega) (by omega) (by omega) (by omega)]
    exact x5 s hs
theorem person_ok {tx : XTx} {mt : MTx} {dr : XTd} {rd : Nat → Int32} (h : tkR tx mt) (hd : toldR dr rd) {k : Nat} (hk : k < 4) : ((f_X5_readPerson tx dr (nI k)).1 = 0 ↔ (f_X8_readPerson mt rd (nI k)).1 = 0) ∧ tkR (f_X5_readPerson tx dr (nI k)).2.1 (f_X8_readPerson mt rd (nI k)).2.1 ∧ toldR (f_X5_readPerson tx dr (nI k)).2.2 (f_X8_readPerson mt rd (nI k)).2.2 := by
  obtain ⟨_, hm, h6⟩ := told_m hd
  unfold f_X5_readPerson f_X8_readPerson f_X6_hasRoom
  by_cases c : 6 ≤ dr.2.2.2.2.2.1
  · have c' : 6 ≤ pN dr := c
    rw [if_pos c, if_pos nI_0, if_pos (c := mN rd = 6) (by omega)]
    exact ⟨Iff.rfl, h, hd⟩
  · have c' : ¬ 6 ≤ pN dr := c
    rw [if_neg c, if_neg (show ¬ nI 1 = 0 by decide), if_neg (c := mN rd = 6) (by omega)]
    obtain ⟨t1, n1⟩ := num_both h.1 (l := 1) (hi := nI 20) (by decide) (by decide)
    generalize f_X5_readNumber tx (nI 1) (nI 20) = N1 at t1 n1
    generalize f_X8_number mt (nI 1) (nI 20) = M1 at t1 n1
    rcases n1 with ⟨a1, a2⟩ | ⟨v1, a1, a2, a3, a4, a5⟩
    · rw [if_pos a1, if_neg (c := 0 ≤ M1.1) (by rw [a2]; decide)]
      exact ⟨Iff.rfl, t1, hd⟩
    · rw [if_neg (c := N1.1 = -1) (by rw [a1]; exact (ge0 a3).2.1), if_pos (c := 0 ≤ M1.1) (by rw [a2]; exact (ge0 a3).1)]
      obtain ⟨t2, n2⟩ := num_both t1.1 (l := 1) (hi := nI 6) (by decide) (by decide)
      generalize f_X5_readNumber N1.2 (nI 1) (nI 6) = N2 at t2 n2
      generalize f_X8_number M1.2 (nI 1) (nI 6) = M2 at t2 n2
      rcases n2 with ⟨b1, b2⟩ | ⟨v2, b1, b2, b3, b4, b5⟩
      · rw [if_pos b1, if_neg (c := 0 ≤ M2.1) (by rw [b2]; decide)]
        exact ⟨Iff.rfl, t2, hd⟩
      · rw [if_neg (c := N2.1 = -1) (by rw [b1]; exact (ge0 b3).2.1), if_pos (c := 0 ≤ M2.1) (by rw [b2]; exact (ge0 b3).1)]
        obtain ⟨t3, n3⟩ := num_both t2.1 (l := 0) (hi := nI 20) (by decide) (by decide)
        generalize f_X5_readNumber N2.2 (nI 0) (nI 20) = N3 at t3 n3
        generalize f_X8_number M2.2 (nI 0) (nI 20) = M3 at t3 n3
        rcases n3 with ⟨c1, c2⟩ | ⟨v3, c1, c2, c3, c4, c5⟩
        · rw [if_pos c1, if_neg (c := 0 ≤ M3.1) (by rw [c2]; decide)]
          exact ⟨Iff.rfl, t3, hd⟩
        · rw [if_neg (c := N3.1 = -1) (by rw [c1]; exact (ge0 c3).2.1), if_pos (c := 0 ≤ M3.1) (by rw [c2]; exact (ge0 c3).1)]
          rw [nI_leI a3 (by decide)] at a5
          rw [nI_leI b3 (by decide)] at b5
          rw [nI_leI c3 (by decide)] at c5
          refine ⟨Iff.rfl, t3, ?_⟩
          (try dsimp only)
          rw [a1, a2, b1, b2, c1, c2]
          exact told_add hd (by omega) (by omega) ⟨a4, a5⟩ ⟨b4, b5⟩ c5
theorem fill_val (rd : Nat → Int32) (at_ a b : Nat) (v : Int32) (j : Nat) : f_X8_fill rd at_ a b v j = if at_ + a ≤ j ∧ j < at_ + a + (b + 1 - a) then v else rd j := fill1 (F := L_X8_fill_3 at_ v) (o := at_) (g := fun _ => v) (fun _ _ => rfl) (fun _ _ _ => rfl) (b + 1 - a) a rd j
theorem deed_val (sx : Int64) (who : Int32) (la : Nat → Int64) {j : Nat} (hj : j < 6) : L_X6_deed_3 who sx 6 0 la j = if nI j = who then la j ||| sx else la j &&& (sx ^^^ (-1 : Int64)) := by
  rw [fillG (F := L_X6_deed_3 who sx) (g := fun k x => if nI k = who then x ||| sx else x &&& (sx ^^^ (-1 : Int64))) (fun _ _ => rfl) (fun _ _ _ => rfl) 6 0 la j, if_pos (by omega)]
theorem span_hi {a b : Nat} (ha : a < 2 ^ 30) (hb : b < 2 ^ 30) (s : Nat) (hs : 60 ≤ s) : bL (f_X7_span (nI a) (nI b)) s = false := by
  by_cases h : s < 64
  · rw [span_bit ha hb h, decide_eq_false (by omega)]
  · exact bL_big (by omega)
theorem told_deed {dr : XTd} {rd : Nat → Int32} (hd : toldR dr rd) {w a b : Nat} (hw : w < pN dr) (hab : a ≤ b) (hb : b ≤ 59) : toldR (f_X6_deed dr (nI w) (f_X7_span (nI a) (nI b))) (f_X8_fill rd 25 a b (nI w)) := by
  obtain ⟨x1, x2, x3, x4, x5, x6⟩ := hd
  have x1' : pN dr ≤ 6 := x1
  refine ⟨x1, by rw [fill_val, if_neg (by omega)]; exact x2, fun p hp => ?_, ?_, fun s hs => ?_, x6⟩
  · have hp' : p < pN dr := hp
    rw [fill_val, fill_val, fill_val, fill_val, if_neg (by omega), if_neg (by omega), if_neg (by omega), if_neg (by omega)]
    exact x3 p hp
  · refine own_give x1 x4 (Or.inr ⟨w, hw, rfl⟩) (span_hi (by omega) (by omega)) (fun j hj => deed_val _ _ _ hj) (fun s hs => ?_)
    rw [fill_val, span_bit (by omega) (by omega) (by omega)]
    by_cases c : a ≤ s ∧ s ≤ b
    · rw [if_pos (by omega), decide_eq_true (by omega), if_pos rfl]
    · rw [if_neg (by omega), decide_eq_false (by omega), if_neg (by decide)]
  · rw [fill_val, if_neg (by omega)]
    exact x5 s hs
theorem told_fog {dr : XTd} {rd : Nat → Int32} (hd : toldR dr rd) {a b : Nat} (hab : a ≤ b) (hb : b ≤ 59) : toldR (dr.1, dr.2.1, dr.2.2.1, dr.2.2.2.1, dr.2.2.2.2.1, dr.2.2.2.2.2.1, (dr.2.2.2.2.2.2 ||| (f_X7_span (nI a) (nI b)))) (f_X8_fill rd 85 a b (nI 1)) := by
  obtain ⟨x1, x2, x3, x4, x5, x6⟩ := hd
  have x1' : pN dr ≤ 6 := x1
  refine ⟨x1, by rw [fill_val, if_neg (by omega)]; exact x2, fun p hp => ?_, ownR_cong (fun _ _ => rfl) (fun s hs => by rw [fill_val, if_neg (by omega)]) x4, fun s hs => ?_, fun s hs => ?_⟩
  · have hp' : p < pN dr := hp
    rw [fill_val, fill_val, fill_val, fill_val, if_neg (by omega), if_neg (by omega), if_neg (by omega), if_neg (by omega)]
    exact x3 p hp
  · (try dsimp only)
    rw [fill_val, bL_or, span_bit (by omega) (by omega) (by omega)]
    by_cases c : a ≤ s ∧ s ≤ b
    · rw [if_pos (by omega), decide_eq_true (by omega), Bool.or_true, if_pos rfl]
    · rw [if_neg (by omega), decide_eq_false (by omega), Bool.or_false]
      exact x5 s hs
  · (try dsimp only)
    rw [bL_or, span_hi (by omega) (by omega) s hs, x6 s hs]
    rfl
theorem told_lift {dr : XTd} {rd : Nat → Int32} (hd : toldR dr rd) : toldR (dr.1, dr.2.1, dr.2.2.1, dr.2.2.2.1, dr.2.2.2.2.1, dr.2.2.2.2.2.1, (0 : Int64)) (f_X8_fill rd 85 0 59 (nI 0)) := by
  obtain ⟨x1, x2, x3, x4, x5, x6⟩ := hd
  have x1' : pN dr ≤ 6 := x1
  refine ⟨x1, by rw [fill_val, if_neg (by omega)]; exact x2, fun p hp => ?_, ownR_cong (fun _ _ => rfl) (fun s hs => by rw [fill_val, if_neg (by omega)]) x4, fun s hs => ?_, fun s _ => bL_0 s⟩
  · have hp' : p < pN dr := hp
    rw [fill_val, fill_val, fill_val, fill_val, if_neg (by omega), if_neg (by omega), if_neg (by omega), if_neg (by omega)]
    exact x3 p hp
  · (try dsimp only)
    rw [fill_val, bL_0, if_pos (by omega), if_neg (by decide)]
theorem told_top {dr : XTd} (rd : Nat → Int32) : toldR (f_X6_reset dr) (f_X8_fill (upd (f_X8_fill rd 85 0 59 (nI 0)) 0 (nI 0)) 25 0 59 (-1 : Int32)) := by
  have hr : ∀ p, p < 6 → (f_X6_reset dr).2.2.2.2.1 p = 0 := fun p hp => by
    show L_X6_reset_2 6 0 dr.2.2.2.2.1 p = 0
    rw [fillG (F := L_X6_reset_2) (g := fun _ _ => 0) (fun _ _ => rfl) (fun _ _ _ => rfl) 6 0 dr.2.2.2.2.1 p, if_pos (by omega)]
  refine ⟨Nat.zero_le _, by rw [fill_val, if_neg (by omega), pk_us]; rfl, fun p hp => absurd hp (Nat.not_lt_zero p), ⟨fun s hs => Or.inl ⟨by show f_X8_fill (upd (f_X8_fill rd 85 0 59 (nI 0)) 0 (nI 0)) 25 0 59 (-1) (25 + s) = -1; rw [fill_val, if_pos (by omega)], fun p hp => by rw [hr p hp, bL_0]⟩, fun p hp s hs => by rw [hr p hp, bL_0]⟩, fun s hs => ?_, fun s _ => bL_0 s⟩
  show _ = if bL (0 : Int64) s = true then nI 1 else nI 0
  rw [fill_val, if_neg (by omega), pk_un (by omega), fill_val, if_pos (by omega), bL_0, if_neg (by decide)]
