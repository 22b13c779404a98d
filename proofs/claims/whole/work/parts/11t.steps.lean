/-! one token on -/
def tokR (tx : XTx) (mt : MTx) : Prop := textR tx mt ∧ mt.2.2.1 = tx.2.2.2.1 ∧ tx.2.2.2.1 ≤ tx.2.1 ∧ mt.2.2.2.2.2.2 = tx.2.2.2.2.2
def tkR (tx : XTx) (mt : MTx) : Prop := tokR tx mt ∧ mt.2.2.2.2.2.1 = tx.2.2.1 ∧
  ((tx.2.2.1 = tx.2.1 ∧ tx.2.2.2.2.1 = nI 0 ∧ mt.2.2.2.1 = nI 3 ∧ tx.2.2.2.1 = tx.2.1) ∨
   (tx.2.2.1 < tx.2.2.2.1 ∧ tx.2.2.2.2.1 = nI 1 ∧ mt.2.2.2.1 = nI 1 ∧ ∀ k, tx.2.2.1 ≤ k → k < tx.2.2.2.1 → azB tx k = true) ∨
   (tx.2.2.1 < tx.2.2.2.1 ∧ tx.2.2.2.2.1 = nI 2 ∧ mt.2.2.2.1 = nI 2 ∧ (∀ k, tx.2.2.1 ≤ k → k < tx.2.2.2.1 → dgB tx k = true) ∧ mt.2.2.2.2.1 = (if tx.2.2.2.1 - tx.2.2.1 ≤ 2 then L_X5_readNumber_35 tx (tx.2.2.2.1 - tx.2.2.1) tx.2.2.1 (nI 0) else nI 999)) ∨
   (tx.2.2.1 < tx.2.1 ∧ tx.2.2.2.2.1 = nI 3 ∧ mt.2.2.2.1 = nI 0 ∧ tx.2.2.2.1 = tx.2.2.1 + 1 ∧ azB tx tx.2.2.1 = false ∧ dgB tx tx.2.2.1 = false ∧ mt.2.2.2.2.1 = mt.1 tx.2.2.1))
theorem dg_cd {tx : XTx} {k : Nat} (h : dgB tx k = true) : k < tx.2.1 ∧ 48 ≤ cd tx k ∧ cd tx k ≤ 57 := by
  unfold dgB at h
  simpa only [Bool.and_eq_true, decide_eq_true_eq] using h
theorem az_cd {tx : XTx} {k : Nat} (h : azB tx k = true) : k < tx.2.1 ∧ 97 ≤ cd tx k ∧ cd tx k ≤ 122 := by
  unfold azB at h
  simpa only [Bool.and_eq_true, decide_eq_true_eq] using h
/-- the value of one or two digits -/
theorem num_val {tx : XTx} {mt : MTx} (h : textR tx mt) (T : Nat) {b n : Nat} (hL : tx.2.1 = n + 1) (hd : dgB tx b = true) (h2 : rn (dgB tx) n (b + 1) - b ≤ 2) (x2 x3 : Nat) (x4 : Int32) (x5 : Nat) : (L_X8_nextToken_106 mt T (n + 1) b (nI 0) (nI 0)).2.2 = L_X5_readNumber_35 (tx.1, tx.2.1, x2, x3, x4, x5) (rn (dgB tx) n (b + 1) - b) b (nI 0) := by
  obtain ⟨hb, c1, c2⟩ := dg_cd hd
  obtain ⟨e1, e2, e3⟩ := text_cd h hb
  obtain ⟨r1, r2, r3⟩ := rn_in (dgB_z tx) n (b + 1) (by omega)
  have hs := rn_stop (dgB_z tx) n (b + 1) (by omega)
  have ev : (if nI 0 ≤ nI 99 then (((nI 10) * (nI 0)) + (mt.1 b)) - (nI 48) else nI 0) = nI (cd tx b - 48) := by
    rw [if_pos (by decide), e2, pk_mul, nI_add, pk_sub (by omega)]
    congr 1
    omega
  rw [m_num h T (nI 0) (by decide) hd, ev]
  by_cases q : rn (dgB tx) n (b + 1) = b + 1
  · rw [q] at hs
    rw [m_nonum h T _ (by decide) hs, q, Nat.add_sub_cancel_left, L_X5_readNumber_35, L_X5_readNumber_35, xla_of h.1, if_pos hb, e1, pk_mul, nI_add, pk_sub (by omega)]
    (try dsimp only)
    congr 1
    omega
  · have q2 : rn (dgB tx) n (b + 1) = b + 2 := by omega
    have hd2 := r3 (b + 1) (Nat.le_refl _) (by omega)
    obtain ⟨hb2, c3, c4⟩ := dg_cd hd2
    obtain ⟨e4, e5, e6⟩ := text_cd h hb2
    obtain ⟨m, rfl⟩ : ∃ m, n = m + 1 := ⟨n - 1, by omega⟩
    rw [q2] at hs
    rw [m_num h T _ (by decide) hd2, m_nonum h T _ (by decide) hs, q2, Nat.add_sub_cancel_left, L_X5_readNumber_35, L_X5_readNumber_35, L_X5_readNumber_35, xla_of h.1, xla_of h.1, if_pos hb, if_pos hb2, e1, e4]
    (try dsimp only)
    rw [e5, if_pos (nI_le (by omega) (by decide)), pk_mul, nI_add, pk_sub (by omega), pk_mul, nI_add, pk_sub (by omega), pk_mul, nI_add, pk_sub (by omega)]
    congr 1
    omega
theorem step_tk {tx : XTx} {mt : MTx} (h : tokR tx mt) : tkR (f_X5_step tx) (f_X8_nextToken mt) := by
  obtain ⟨hx, hp, he, hc⟩ := h
  obtain ⟨h1, h2, h3, h4⟩ := hx
  have hx : textR tx mt := ⟨h1, h2, h3, h4⟩
  have hb : st0 tx = rn (blB tx) tx.2.1 tx.2.2.2.1 := x_blanks hx _ _
  have hb' : nt0 mt = rn (blB tx) tx.2.1 tx.2.2.2.1 := by
    unfold nt0
    rw [m_blanks hx, h2, hp]
  obtain ⟨b1, b2, b3⟩ := rn_in (blB_z tx) tx.2.1 tx.2.2.2.1 he
  generalize rn (blB tx) tx.2.1 tx.2.2.2.1 = b at hb hb' b1 b2 b3
  have hS : stS tx = if b < tx.2.1 then (if azB tx b = true then nI 1 else if dgB tx b = true then nI 2 else nI 3) else nI 0 := by
    unfold stS
    rw [x_sort hx, hb]
  have hE : stE tx = L_X5_step_106 tx b (stS tx) tx.2.1 (if stS tx = 0 then b else b + 1) := by
    unfold stE
    rw [hb]
  have hn1 : nt1 mt = L_X8_nextToken_59 mt b tx.2.1 b (if b = tx.2.1 then nI 3 else nI 0) := by
    unfold nt1
    rw [hb', h2]
  have hn2 : nt2 mt = L_X8_nextToken_106 mt b tx.2.1 (nt1 mt).1 (nt1 mt).2 (nI 0) := by
    unfold nt2
    rw [hb', h2]
  have htR : ∀ (x2 x3 : Nat) (x4 : Int32) (x5 : Nat) (y2 : Nat) (y3 y4 : Int32) (y6 : Nat), textR (tx.1, tx.2.1, x2, x3, x4, x5) (mt.1, mt.2.1, y2, y3, y4, b, y6) := fun _ _ _ _ _ _ _ _ => ⟨h1, h2, by (try dsimp only); omega, h4⟩
  rw [st_eq, nt_eq, hb, hb']
  by_cases hL : b < tx.2.1
  · obtain ⟨n, hn⟩ : ∃ n, tx.2.1 = n + 1 := ⟨tx.2.1 - 1, by omega⟩
    rw [if_pos hL] at hS
    rw [if_neg (by omega)] at hn1
    by_cases haz : azB tx b = true
    · rw [if_pos haz] at hS
      rw [hn, m_word hx b haz] at hn1
      rw [hn1, m_num1] at hn2
      rw [hS, if_neg (by decide), x_run1 hx] at hE
      rw [rn_fuel (azB_z tx) tx.2.1 n (b + 1) (by omega) (by omega)] at hE
      obtain ⟨r1, r2, r3⟩ := rn_in (azB_z tx) n (b + 1) (by omega)
      rw [hE, hS, hn2]
      unfold ntF
      (try dsimp only)
      rw [if_neg (by decide), if_neg (by decide)]
      refine ⟨⟨htR _ _ _ _ _ _ _ _, rfl, r2, hc⟩, rfl, Or.inr (Or.inl ⟨r1, rfl, rfl, fun k k1 k2 => ?_⟩)⟩
      (try dsimp only at k1 k2)
      by_cases e : k = b
      · rw [e]
        exact haz
      · exact r3 k (by omega) k2
    · rw [if_neg haz] at hS
      rw [m_noword hx b (Bool.not_eq_true _ |>.mp haz)] at hn1
      by_cases hdg : dgB tx b = true
      · rw [if_pos hdg] at hS
        rw [hS, if_neg (by decide), x_run2 hx, rn_fuel (dgB_z tx) tx.2.1 n (b + 1) (by omega) (by omega)] at hE
        obtain ⟨r1, r2, r3⟩ := rn_in (dgB_z tx) n (b + 1) (by omega)
        have hv := fun q => num_val hx b hn hdg q b (rn (dgB tx) n (b + 1)) (nI 2) tx.2.2.2.2.2
        rw [hn1, hn] at hn2
        (try dsimp only at hn2)
        rw [← hn2] at hv
        have hm := m_run2 hx b n (b + 1) (if nI 0 ≤ nI 99 then (((nI 10) * (nI 0)) + (mt.1 b)) - (nI 48) else nI 0)
        rw [← m_num hx b (t := nI 0) (nI 0) (by decide) hdg, ← hn2] at hm
        generalize nt2 mt = T at hm hv
        obtain ⟨T1, T2, T3⟩ := T
        obtain ⟨m1, m2⟩ := hm
        (try dsimp only at m1 m2 hv)
        subst m1
        subst m2
        rw [hE, hS]
        unfold ntF
        (try dsimp only)
        rw [if_pos rfl, if_neg (show ¬ nI 2 = 0 by decide), pk_sub (by omega)]
        by_cases q : rn (dgB tx) n (b + 1) - b ≤ 2
        · rw [if_pos (nI_le q (by decide))]
          refine ⟨⟨htR _ _ _ _ _ _ _ _, rfl, r2, hc⟩, rfl, Or.inr (Or.inr (Or.inl ⟨r1, rfl, rfl, fun k k1 k2 => ?_, ?_⟩))⟩
          · (try dsimp only at k1 k2)
            by_cases e : k = b
            · rw [e]
              exact hdg
            · exact r3 k (by omega) k2
          · (try dsimp only)
            rw [if_pos q]
            exact hv q
        · rw [if_neg (nI_ge (by omega) (by omega)), if_neg (show ¬ nI 2 = 0 by decide)]
          refine ⟨⟨htR _ _ _ _ _ _ _ _, rfl, r2, hc⟩, rfl, Or.inr (Or.inr (Or.inl ⟨r1, rfl, rfl, fun k k1 k2 => ?_, ?_⟩))⟩
          · (try dsimp only at k1 k2)
            by_cases e : k = b
            · rw [e]
              exact hdg
            · exact r3 k (by omega) k2
          · (try dsimp only)
            rw [if_neg q]
      · rw [if_neg hdg] at hS
        rw [hS, if_neg (by decide), x_run0 tx b (Or.inr rfl)] at hE
        rw [hn1] at hn2
        dsimp only at hn2
        rw [m_nonum hx b (nI 0) (show ¬ nI 0 = nI 1 by decide) (Bool.not_eq_true _ |>.mp hdg)] at hn2
        rw [hE, hS, hn2]
        unfold ntF
        (try dsimp only)
        rw [if_neg (by decide), if_pos nI_0]
        exact ⟨⟨htR _ _ _ _ _ _ _ _, rfl, hL, hc⟩, rfl, Or.inr (Or.inr (Or.inr ⟨hL, rfl, rfl, rfl, Bool.not_eq_true _ |>.mp haz, Bool.not_eq_true _ |>.mp hdg, rfl⟩))⟩
  · have hbL : b = tx.2.1 := by omega
    rw [if_neg hL] at hS
    rw [if_pos hbL, m_run3] at hn1
    rw [hS, if_pos nI_0, x_run0 tx b (Or.inl rfl)] at hE
    rw [hn1] at hn2
    dsimp only at hn2
    rw [m_nonum hx b (nI 0) (show ¬ nI 3 = nI 1 by decide) (dgB_z tx b (by omega))] at hn2
    rw [hE, hS, hn2]
    unfold ntF
    (try dsimp only)
    rw [if_neg (by decide), if_neg (by decide)]
    exact ⟨⟨htR _ _ _ _ _ _ _ _, rfl, by (try dsimp only); omega, hc⟩, rfl, Or.inl ⟨hbL, rfl, rfl, hbL⟩⟩
/-- a number behind the word -/
theorem number_eq {tx : XTx} {mt : MTx} (h : tokR tx mt) {lo hi : Int32} (hh : hi.toInt < 999) : (f_X5_readNumber tx lo hi).1 = (f_X8_number mt lo hi).1 ∧ tkR (f_X5_readNumber tx lo hi).2 (f_X8_number mt lo hi).2 := by
  have ht := step_tk h
  unfold f_X5_readNumber f_X8_number
  generalize f_X5_step tx = t at ht
  generalize f_X8_nextToken mt = m at ht
  have e2 : (if t.2.2.2.2.1 = nI 2 then (if ((nI t.2.2.2.1) - (nI t.2.2.1)) ≤ nI 2 then ((if (f_X7_isWithin (L_X5_readNumber_35 t (t.2.2.2.1 - t.2.2.1) t.2.2.1 (nI 0)) lo hi) = 0 then (-1 : Int32) else (L_X5_readNumber_35 t (t.2.2.2.1 - t.2.2.1) t.2.2.1 (nI 0))), t) else ((-1 : Int32), t)) else ((-1 : Int32), t)).2 = t := by
    split
    · split <;> rfl
    · rfl
  refine ⟨?_, by rw [e2]; exact ht⟩
  (try dsimp only)
  have hL : t.2.1 ≤ 160 := ht.1.1.1
  have hle : t.2.2.2.1 ≤ t.2.1 := ht.1.2.2.1
  rcases ht.2.2 with ⟨a1, a2, a3, a4⟩ | ⟨a1, a2, a3, a4⟩ | ⟨a1, a2, a3, a4, a5⟩ | ⟨a1, a2, a3, a4⟩
  · rw [if_neg (by rw [a2]; decide), if_neg (by rw [a3]; decide)]
  · rw [if_neg (by rw [a2]; decide), if_neg (by rw [a3]; decide)]
  · rw [if_pos a2, if_pos a3, a5, pk_sub (by omega)]
    by_cases q : t.2.2.2.1 - t.2.2.1 ≤ 2
    · rw [if_pos (nI_le q (by decide)), if_pos q, within_in _ lo hi rfl rfl]
    · rw [if_neg (nI_ge (by omega) (by omega)), if_neg q, if_pos]
      rw [in_iff]
      intro z
      have z2 := z.2
      rw [Int64.le_iff_toInt_le, Int32.toInt_toInt64, Int32.toInt_toInt64] at z2
      have : (nI 999).toInt = 999 := by decide
      omega
  · rw [if_neg (by rw [a2]; decide), if_neg (by rw [a3]; decide)]
