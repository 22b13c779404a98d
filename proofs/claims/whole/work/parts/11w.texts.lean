/-! seconds read, clauses, texts -/
theorem hiP {P : Nat} (h : P ≤ 6) : (nI P - nI 1).toInt < 999 := by
  have : ∀ P, P < 7 → (nI P - nI 1).toInt < 999 := by decide +kernel
  exact this P (by omega)
theorem deed_ok {tx : XTx} {mt : MTx} {dr : XTd} {rd : Nat → Int32} (h : tkR tx mt) (hd : toldR dr rd) (Y : Int32 × MTx × (Nat → Int32)) (hY : Y = (if (f_X8_number mt (nI 0) ((nI (mN rd)) - (nI 1))).1 < 0 then (nI 0, (f_X8_number mt (nI 0) ((nI (mN rd)) - (nI 1))).2, rd) else ((if (f_X8_readSpan (f_X8_number mt (nI 0) ((nI (mN rd)) - (nI 1))).2 rd 25 (f_X8_number mt (nI 0) ((nI (mN rd)) - (nI 1))).1).1 = 0 then nI 0 else nI 1), (f_X8_readSpan (f_X8_number mt (nI 0) ((nI (mN rd)) - (nI 1))).2 rd 25 (f_X8_number mt (nI 0) ((nI (mN rd)) - (nI 1))).1).2.1, (f_X8_readSpan (f_X8_number mt (nI 0) ((nI (mN rd)) - (nI 1))).2 rd 25 (f_X8_number mt (nI 0) ((nI (mN rd)) - (nI 1))).1).2.2))) : ((f_X5_readSeconds tx dr (nI 4)).1 = 0 ↔ Y.1 = 0) ∧ tkR (f_X5_readSeconds tx dr (nI 4)).2.1 Y.2.1 ∧ toldR (f_X5_readSeconds tx dr (nI 4)).2.2 Y.2.2 := by
  obtain ⟨_, hm, h6⟩ := told_m hd
  rw [hm] at hY
  unfold f_X5_readSeconds
  rw [if_pos rfl]
  obtain ⟨t0, n0⟩ := num_both h.1 (l := 0) (hi := nI (pN dr) - nI 1) (by decide) (hiP h6)
  generalize f_X5_readNumber tx (nI 0) (nI dr.2.2.2.2.2.1 - nI 1) = N0 at t0 n0 ⊢
  generalize f_X8_number mt (nI 0) (nI (pN dr) - nI 1) = M0 at t0 n0 hY
  rcases n0 with ⟨a1, a2⟩ | ⟨w, a1, a2, a3, a4, a5⟩
  · rw [if_pos (c := M0.1 < 0) (by rw [a2]; decide)] at hY
    rw [if_pos a1, hY]
    exact ⟨Iff.rfl, t0, hd⟩
  · have hw : w < pN dr := by
      by_cases hz : pN dr = 0
      · rw [hz] at a5
        have a6 : nI w ≤ -1 := a5
        rw [Int32.le_iff_toInt_le, nI_toInt a3] at a6
        have : (-1 : Int32).toInt = -1 := by decide
        omega
      · rw [pk_sub (by omega), nI_leI a3 (by omega)] at a5
        omega
    rw [a2, if_neg (ge0 a3).2.2] at hY
    unfold f_X8_readSpan at hY
    rw [a1, if_neg (ge0 a3).2.1]
    obtain ⟨t1, n1⟩ := num_both t0.1 (l := 0) (hi := nI 59) (by decide) (by decide)
    generalize f_X5_readNumber N0.2 (nI 0) (nI 59) = N1 at t1 n1 ⊢
    generalize f_X8_number M0.2 (nI 0) (nI 59) = M1 at t1 n1 hY
    rcases n1 with ⟨b1, b2⟩ | ⟨v1, b1, b2, b3, b4, b5⟩
    · rw [if_neg (c := 0 ≤ M1.1) (by rw [b2]; decide)] at hY
      (try dsimp only at hY)
      rw [if_pos nI_0] at hY
      rw [if_pos b1, hY]
      exact ⟨Iff.rfl, t1, hd⟩
    · rw [nI_leI b3 (by decide)] at b5
      rw [b2, if_pos (ge0 b3).1] at hY
      rw [b1, if_neg (ge0 b3).2.1]
      obtain ⟨t2, n2⟩ := num_both t1.1 (l := v1) (hi := nI 59) (by omega) (by decide)
      generalize f_X5_readNumber N1.2 (nI v1) (nI 59) = N2 at t2 n2 ⊢
      generalize f_X8_number M1.2 (nI v1) (nI 59) = M2 at t2 n2 hY
      rcases n2 with ⟨c1, c2⟩ | ⟨v2, c1, c2, c3, c4, c5⟩
      · rw [if_neg (c := 0 ≤ M2.1) (by rw [c2]; decide)] at hY
        (try dsimp only at hY)
        rw [if_pos nI_0] at hY
        rw [if_pos c1, hY]
        exact ⟨Iff.rfl, t2, hd⟩
      · rw [nI_leI c3 (by decide)] at c5
        rw [c2, if_pos (ge0 c3).1] at hY
        (try dsimp only at hY)
        rw [if_neg (show ¬ nI 1 = 0 by decide), nI_clamp b3, nI_clamp c3] at hY
        rw [c1, if_neg (ge0 c3).2.1, hY]
        exact ⟨Iff.rfl, t2, told_deed hd hw c4 c5⟩
theorem fog_ok {tx : XTx} {mt : MTx} {dr : XTd} {rd : Nat → Int32} (h : tkR tx mt) (hd : toldR dr rd) : ((f_X5_readSeconds tx dr (nI 5)).1 = 0 ↔ (f_X8_readSpan mt rd 85 (nI 1)).1 = 0) ∧ tkR (f_X5_readSeconds tx dr (nI 5)).2.1 (f_X8_readSpan mt rd 85 (nI 1)).2.1 ∧ toldR (f_X5_readSeconds tx dr (nI 5)).2.2 (f_X8_readSpan mt rd 85 (nI 1)).2.2 := by
  unfold f_X5_readSeconds f_X8_readSpan
  rw [if_neg (by decide)]
  obtain ⟨t1, n1⟩ := num_both h.1 (l := 0) (hi := nI 59) (by decide) (by decide)
  generalize f_X5_readNumber tx (nI 0) (nI 59) = N1 at t1 n1 ⊢
  generalize f_X8_number mt (nI 0) (nI 59) = M1 at t1 n1 ⊢
  rcases n1 with ⟨b1, b2⟩ | ⟨v1, b1, b2, b3, b4, b5⟩
  · rw [if_pos b1, if_neg (c := 0 ≤ M1.1) (by rw [b2]; decide)]
    exact ⟨Iff.rfl, t1, hd⟩
  · rw [nI_leI b3 (by decide)] at b5
    rw [b1, b2, if_neg (ge0 b3).2.1, if_pos (ge0 b3).1]
    obtain ⟨t2, n2⟩ := num_both t1.1 (l := v1) (hi := nI 59) (by omega) (by decide)
    generalize f_X5_readNumber N1.2 (nI v1) (nI 59) = N2 at t2 n2 ⊢
    generalize f_X8_number M1.2 (nI v1) (nI 59) = M2 at t2 n2 ⊢
    rcases n2 with ⟨c1, c2⟩ | ⟨v2, c1, c2, c3, c4, c5⟩
    · rw [if_pos c1, if_neg (c := 0 ≤ M2.1) (by rw [c2]; decide)]
      exact ⟨Iff.rfl, t2, hd⟩
    · rw [nI_leI c3 (by decide)] at c5
      rw [c1, c2, if_neg (ge0 c3).2.1, if_pos (ge0 c3).1]
      (try dsimp only)
      rw [nI_clamp b3, nI_clamp c3]
      exact ⟨Iff.rfl, t2, told_fog hd c4 c5⟩
theorem clause_ok {tx : XTx} {mt : MTx} {dr : XTd} {rd : Nat → Int32} (h : tokR tx mt) (hd : toldR dr rd) : ((f_X5_readClause tx dr).1 = 0 ↔ (f_X8_readClause (f_X8_nextToken mt) rd).1 = 0) ∧ tkR (f_X5_readClause tx dr).2.1 (f_X8_readClause (f_X8_nextToken mt) rd).2.1 ∧ toldR (f_X5_readClause tx dr).2.2 (f_X8_readClause (f_X8_nextToken mt) rd).2.2 := by
  have ht := step_tk h
  unfold f_X5_readClause f_X8_readClause
  generalize f_X5_step tx = t at ht ⊢
  generalize f_X8_nextToken mt = m at ht ⊢
  have hw := words_eq ht
  generalize f_X5_wordAtHand t = W at hw ⊢
  generalize f_X8_verb m = V at hw ⊢
  rcases hw with ⟨e1, e2⟩ | ⟨k, hk, e1, e2⟩ | ⟨e1, e2⟩ | ⟨e1, e2⟩ | ⟨e1, e2⟩ | ⟨e1, e2⟩
  · subst e1
    subst e2
    rw [if_neg (by decide), if_neg (by decide), if_neg (by decide), if_neg (by decide), if_neg (by decide), if_neg (by decide), if_neg (by decide), if_neg (by decide), if_neg (by decide)]
    exact ⟨Iff.rfl, ht, hd⟩
  · subst e1
    subst e2
    have hp := person_ok ht hd hk
    rw [if_pos (show 0 ≤ nI k from nI_pos' (by omega)), if_neg (show ¬ nI 4 ≤ nI k from nI_ge hk (by decide))]
    have hc : k = 0 ∨ k = 1 ∨ k = 2 ∨ k = 3 := by omega
    rcases hc with rfl | rfl | rfl | rfl
    · rw [if_pos rfl]
      exact hp
    · rw [if_neg (by decide), if_pos rfl]
      exact hp
    · rw [if_neg (by decide), if_neg (by decide), if_pos rfl]
      exact hp
    · rw [if_neg (by decide), if_neg (by decide), if_neg (by decide), if_pos rfl]
      exact hp
  · subst e1
    subst e2
    rw [if_neg (show ¬ nI 4 = nI 0 by decide), if_neg (show ¬ nI 4 = nI 1 by decide), if_neg (show ¬ nI 4 = nI 2 by decide), if_neg (show ¬ nI 4 = nI 3 by decide), if_pos (show nI 4 = nI 4 from rfl), if_pos (show 0 ≤ nI 5 by decide), if_pos (show nI 4 ≤ nI 5 by decide), if_pos (show nI 5 = nI 5 from rfl)]
    exact deed_ok ht hd _ rfl
  · subst e1
    subst e2
    rw [if_neg (show ¬ nI 5 = nI 0 by decide), if_neg (show ¬ nI 5 = nI 1 by decide), if_neg (show ¬ nI 5 = nI 2 by decide), if_neg (show ¬ nI 5 = nI 3 by decide), if_neg (show ¬ nI 5 = nI 4 by decide), if_pos (show nI 5 = nI 5 from rfl), if_pos (show 0 ≤ nI 6 by decide), if_pos (show nI 4 ≤ nI 6 by decide), if_neg (show ¬ nI 6 = nI 5 by decide), if_pos (show nI 6 = nI 6 from rfl)]
    exact fog_ok ht hd
  · subst e1
    subst e2
    rw [if_neg (show ¬ nI 6 = nI 0 by decide), if_neg (show ¬ nI 6 = nI 1 by decide), if_neg (show ¬ nI 6 = nI 2 by decide), if_neg (show ¬ nI 6 = nI 3 by decide), if_neg (show ¬ nI 6 = nI 4 by decide), if_neg (show ¬ nI 6 = nI 5 by decide), if_pos (show nI 6 = nI 6 from rfl), if_pos (show 0 ≤ nI 7 by decide), if_pos (show nI 4 ≤ nI 7 by decide), if_neg (show ¬ nI 7 = nI 5 by decide), if_neg (show ¬ nI 7 = nI 6 by decide), if_neg (show ¬ nI 7 = nI 4 by decide)]
    exact ⟨Iff.rfl, ht, told_lift hd⟩
  · subst e1
    subst e2
    rw [if_neg (show ¬ nI 7 = nI 0 by decide), if_neg (show ¬ nI 7 = nI 1 by decide), if_neg (show ¬ nI 7 = nI 2 by decide), if_neg (show ¬ nI 7 = nI 3 by decide), if_neg (show ¬ nI 7 = nI 4 by decide), if_neg (show ¬ nI 7 = nI 5 by decide), if_neg (show ¬ nI 7 = nI 6 by decide), if_pos (show nI 7 = nI 7 from rfl), if_pos (show 0 ≤ nI 4 by decide), if_pos (show nI 4 ≤ nI 4 by decide), if_neg (show ¬ nI 4 = nI 5 by decide), if_neg (show ¬ nI 4 = nI 6 by decide), if_pos (show nI 4 = nI 4 from rfl)]
    exact ⟨Iff.rfl, ht, told_top rd⟩
theorem tok_mtOk {tx : XTx} {mt : MTx} (h : tokR tx mt) : mtOk mt := by
  obtain ⟨⟨a, b, c, d⟩, e, f, g⟩ := h
  exact ⟨by omega, by omega, c⟩
theorem into_loop : ∀ (n k : Nat) (tx : XTx) (mt : MTx) (dr : XTd) (rd : Nat → Int32), k + (n + 1) = 14 → tokR tx mt → toldR dr rd → mt.2.2.2.2.2.2 = k → textR (L_X5_readInto_12 (n + 1) k tx dr).2.1 (L_X8_readText_37 (n + 1) mt rd).2.1 ∧ (((L_X8_readText_37 (n + 1) mt rd).1 = 0 ∧ (L_X5_readInto_12 (n + 1) k tx dr).1 = nI (L_X8_readText_37 (n + 1) mt rd).2.1.2.2.2.2.2.1) ∨ (¬ (L_X8_readText_37 (n + 1) mt rd).1 = 0 ∧ (L_X5_readInto_12 (n + 1) k tx dr).1 = -1 ∧ toldR (L_X5_readInto_12 (n + 1) k tx dr).2.2 (L_X8_readText_37 (n + 1) mt rd).2.2 ∧ (L_X8_readText_37 (n + 1) mt rd).2.1.2.2.2.2.2.2 = (L_X5_readInto_12 (n + 1) k tx dr).2.1.2.2.2.2.2)) := by
  intro n
  induction n with
  | zero =>
    intro k tx mt dr rd hk h hd hcl
    obtain ⟨c1, c2, c3⟩ := clause_ok h hd
    have hrc := rc_cl (rd := rd) (nt_ok (tok_mtOk h))
    rw [(nt_all (tok_mtOk h)).2.2.2.1, hcl] at hrc
    rw [L_X5_readInto_12, L_X8_readText_37]
    generalize f_X5_readClause tx dr = X1 at c1 c2 c3 ⊢
    generalize f_X8_readClause (f_X8_nextToken mt) rd = Y1 at c1 c2 c3 hrc ⊢
    by_cases z : Y1.1 = 0
    · rw [if_pos z, if_pos (c1.mpr z)]
      exact ⟨c2.1.1, Or.inl ⟨nI_0, by (try dsimp only); rw [c2.2.1]⟩⟩
    · rw [if_neg z, if_neg (fun y => z (c1.mp y))]
      have h2 : tokR (txC X1.2.1 (k + 1)) (mtInc Y1.2.1) := ⟨c2.1.1, c2.1.2.1, c2.1.2.2.1, by show Y1.2.1.2.2.2.2.2.2 + 1 = k + 1; rw [hrc]⟩
      have ht := step_tk h2
      have hcl2 : (f_X8_nextToken (mtInc Y1.2.1)).2.2.2.2.2.2 = k + 1 := by
        rw [(nt_all (tok_mtOk h2)).2.2.2.1]
        show Y1.2.1.2.2.2.2.2.2 + 1 = k + 1
        rw [hrc]
      generalize f_X5_step (txC X1.2.1 (k + 1)) = t at ht ⊢
      generalize f_X8_nextToken (mtInc Y1.2.1) = m at ht hcl2 ⊢
      have hL : t.2.1 ≤ 160 := ht.1.1.1
      rcases ht.2.2 with ⟨a1, a2, a3, a4⟩ | ⟨a1, a2, a3, a4⟩ | ⟨a1, a2, a3, a4, a5⟩ | ⟨a1, a2, a3, a4, a5, a6, a7⟩
      · rw [if_pos (c := t.2.2.2.2.1 = 0) (by rw [a2]; exact nI_0), if_pos a3]
        exact ⟨ht.1.1, Or.inr ⟨(show ¬ nI 1 = 0 by decide), rfl, c3, ht.1.2.2.2⟩⟩
      · have hc := az_cd (a4 t.2.2.1 (Nat.le_refl _) a1)
        rw [if_neg (c := t.2.2.2.2.1 = 0) (by rw [a2]; decide), if_neg (c := m.2.2.2.1 = nI 3) (by rw [a3]; decide), if_neg (c := m.2.2.2.1 = 0) (by rw [a3]; decide), xla hL, if_pos hc.1, (text_cd ht.1.1 hc.1).1, if_neg (fun y => by have := (nI_eq (by have := (text_cd ht.1.1 hc.1).2.2; omega) (by decide)).mp y; omega)]
        exact ⟨ht.1.1, Or.inl ⟨nI_0, by (try dsimp only); rw [ht.2.1]⟩⟩
      · have hc := dg_cd (a4 t.2.2.1 (Nat.le_refl _) a1)
        rw [if_neg (c := t.2.2.2.2.1 = 0) (by rw [a2]; decide), if_neg (c := m.2.2.2.1 = nI 3) (by rw [a3]; decide), if_neg (c := m.2.2.2.1 = 0) (by rw [a3]; decide), xla hL, if_pos hc.1, (text_cd ht.1.1 hc.1).1, if_neg (fun y => by have := (nI_eq (by have := (text_cd ht.1.1 hc.1).2.2; omega) (by decide)).mp y; omega)]
        exact ⟨ht.1.1, Or.inl ⟨nI_0, by (try dsimp only); rw [ht.2.1]⟩⟩
      · rw [if_neg (c := t.2.2.2.2.1 = 0) (by rw [a2]; decide), if_neg (c := m.2.2.2.1 = nI 3) (by rw [a3]; decide), if_pos (c := m.2.2.2.1 = 0) (by rw [a3]; exact nI_0), xla hL, if_pos a1, a7, (text_cd ht.1.1 a1).1, (text_cd ht.1.1 a1).2.1]
        by_cases y : nI (cd t t.2.2.1) = nI 59
        · rw [if_pos y, if_pos y, if_pos (by omega), L_X5_readInto_12]
          exact ⟨ht.1.1, Or.inl ⟨nI_0, by (try dsimp only); rw [ht.2.1]⟩⟩
        · rw [if_neg y, if_neg y]
          exact ⟨ht.1.1, Or.inl ⟨nI_0, by (try dsimp only); rw [ht.2.1]⟩⟩
  | succ n ih =>
    intro k tx mt dr rd hk h hd hcl
    obtain ⟨c1, c2, c3⟩ := clause_ok h hd
    have hrc := rc_cl (rd := rd) (nt_ok (tok_mtOk h))
    rw [(nt_all (tok_mtOk h)).2.2.2.1, hcl] at hrc
    rw [L_X5_readInto_12, L_X8_readText_37]
    generalize f_X5_readClause tx dr = X1 at c1 c2 c3 ⊢
    generalize f_X8_readClause (f_X8_nextToken mt) rd = Y1 at c1 c2 c3 hrc ⊢
    by_cases z : Y1.1 = 0
    · rw [if_pos z, if_pos (c1.mpr z)]
      exact ⟨c2.1.1, Or.inl ⟨nI_0, by (try dsimp only); rw [c2.2.1]⟩⟩
    · rw [if_neg z, if_neg (fun y => z (c1.mp y))]
      have h2 : tokR (txC X1.2.1 (k + 1)) (mtInc Y1.2.1) := ⟨c2.1.1, c2.1.2.1, c2.1.2.2.1, by show Y1.2.1.2.2.2.2.2.2 + 1 = k + 1; rw [hrc]⟩
      have ht := step_tk h2
      have hcl2 : (f_X8_nextToken (mtInc Y1.2.1)).2.2.2.2.2.2 = k + 1 := by
        rw [(nt_all (tok_mtOk h2)).2.2.2.1]
        show Y1.2.1.2.2.2.2.2.2 + 1 = k + 1
        rw [hrc]
      generalize f_X5_step (txC X1.2.1 (k + 1)) = t at ht ⊢
      generalize f_X8_nextToken (mtInc Y1.2.1) = m at ht hcl2 ⊢
      have hL : t.2.1 ≤ 160 := ht.1.1.1
      rcases ht.2.2 with ⟨a1, a2, a3, a4⟩ | ⟨a1, a2, a3, a4⟩ | ⟨a1, a2, a3, a4, a5⟩ | ⟨a1, a2, a3, a4, a5, a6, a7⟩
      · rw [if_pos (c := t.2.2.2.2.1 = 0) (by rw [a2]; exact nI_0), if_pos a3]
        exact ⟨ht.1.1, Or.inr ⟨(show ¬ nI 1 = 0 by decide), rfl, c3, ht.1.2.2.2⟩⟩
      · have hc := az_cd (a4 t.2.2.1 (Nat.le_refl _) a1)
        rw [if_neg (c := t.2.2.2.2.1 = 0) (by rw [a2]; decide), if_neg (c := m.2.2.2.1 = nI 3) (by rw [a3]; decide), if_neg (c := m.2.2.2.1 = 0) (by rw [a3]; decide), xla hL, if_pos hc.1, (text_cd ht.1.1 hc.1).1, if_neg (fun y => by have := (nI_eq (by have := (text_cd ht.1.1 hc.1).2.2; omega) (by decide)).mp y; omega)]
        exact ⟨ht.1.1, Or.inl ⟨nI_0, by (try dsimp only); rw [ht.2.1]⟩⟩
      · have hc := dg_cd (a4 t.2.2.1 (Nat.le_refl _) a1)
        rw [if_neg (c := t.2.2.2.2.1 = 0) (by rw [a2]; decide), if_neg (c := m.2.2.2.1 = nI 3) (by rw [a3]; decide), if_neg (c := m.2.2.2.1 = 0) (by rw [a3]; decide), xla hL, if_pos hc.1, (text_cd ht.1.1 hc.1).1, if_neg (fun y => by have := (nI_eq (by have := (text_cd ht.1.1 hc.1).2.2; omega) (by decide)).mp y; omega)]
        exact ⟨ht.1.1, Or.inl ⟨nI_0, by (try dsimp only); rw [ht.2.1]⟩⟩
      · rw [if_neg (c := t.2.2.2.2.1 = 0) (by rw [a2]; decide), if_neg (c := m.2.2.2.1 = nI 3) (by rw [a3]; decide), if_pos (c := m.2.2.2.1 = 0) (by rw [a3]; exact nI_0), xla hL, if_pos a1, a7, (text_cd ht.1.1 a1).1, (text_cd ht.1.1 a1).2.1]
        by_cases y : nI (cd t t.2.2.1) = nI 59
        · rw [if_pos y, if_pos y, if_neg (by omega)]
          exact ih (k + 1) t m X1.2.2 Y1.2.2 (by omega) ht.1 c3 hcl2
        · rw [if_neg y, if_neg y]
          exact ⟨ht.1.1, Or.inl ⟨nI_0, by (try dsimp only); rw [ht.2.1]⟩⟩
