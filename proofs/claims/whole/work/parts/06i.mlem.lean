theorem rc_ok {mt : MTx} {rd : Nat → Int32} (h : mtOk mt) (hr : rdOk rd) : mtOk (f_X8_readClause mt rd).2.1 ∧ rdOk (f_X8_readClause mt rd).2.2 := by
  have hz : ∀ w : Nat → Int32, rdOk (upd w 0 (nI 0)) := fun w => rdOk_put (n := 0) rfl (by decide)
  have h1 : mtOk (f_X8_number mt (nI 0) (nI (mN rd) - nI 1)).2 := num_ok h
  unfold f_X8_readClause
  split
  · split
    · split
      · split
        · (try dsimp only)
          exact ⟨h1, hr⟩
        · (try dsimp only)
          exact rs_ok h1 hr (by decide)
      · split
        · (try dsimp only)
          exact rs_ok h hr (by decide)
        · split
          · (try dsimp only)
            exact ⟨h, fill_rd (hz _) (by decide)⟩
          · (try dsimp only)
            exact ⟨h, fill_rd hr (by decide)⟩
    · (try dsimp only)
      exact rp_ok h hr
  · (try dsimp only)
    exact ⟨h, hr⟩
def mtInc (mt : MTx) : MTx := (mt.1, mt.2.1, mt.2.2.1, mt.2.2.2.1, mt.2.2.2.2.1, mt.2.2.2.2.2.1, mt.2.2.2.2.2.2 + 1)
theorem rp_cl {mt : MTx} {rd : Nat → Int32} {ki : Int32} (h : mtOk mt) : (f_X8_readPerson mt rd ki).2.1.2.2.2.2.2.2 = mt.2.2.2.2.2.2 := by
  have n1 : ∀ {m : MTx} {a b : Int32}, mtOk m → (f_X8_number m a b).2.2.2.2.2.2.2 = m.2.2.2.2.2.2 := fun h => (nt_all h).2.2.2.1
  have h1 : mtOk (f_X8_number mt (nI 1) (nI 20)).2 := num_ok h
  have h2 : mtOk (f_X8_number (f_X8_number mt (nI 1) (nI 20)).2 (nI 1) (nI 6)).2 := num_ok h1
  have e1 := n1 (a := nI 1) (b := nI 20) h
  have e2 := n1 (a := nI 1) (b := nI 6) h1
  have e3 := n1 (a := nI 0) (b := nI 20) h2
  unfold f_X8_readPerson
  split
  · rfl
  · split
    · split
      · split
        · (try dsimp only)
          exact e3.trans (e2.trans e1)
        · (try dsimp only)
          exact e3.trans (e2.trans e1)
      · (try dsimp only)
        exact e2.trans e1
    · (try dsimp only)
      exact e1
theorem rs_cl {mt : MTx} {rd : Nat → Int32} {at_ : Nat} {vv : Int32} (h : mtOk mt) : (f_X8_readSpan mt rd at_ vv).2.1.2.2.2.2.2.2 = mt.2.2.2.2.2.2 := by
  have n1 : ∀ {m : MTx} {a b : Int32}, mtOk m → (f_X8_number m a b).2.2.2.2.2.2.2 = m.2.2.2.2.2.2 := fun h => (nt_all h).2.2.2.1
  have h1 : mtOk (f_X8_number mt (nI 0) (nI 59)).2 := num_ok h
  have e1 := n1 (a := nI 0) (b := nI 59) h
  have e2 := n1 (a := (f_X8_number mt (nI 0) (nI 59)).1) (b := nI 59) h1
  unfold f_X8_readSpan
  split
  · split
    · (try dsimp only)
      exact e2.trans e1
    · (try dsimp only)
      exact e2.trans e1
  · (try dsimp only)
    exact e1
theorem rc_cl {mt : MTx} {rd : Nat → Int32} (h : mtOk mt) : (f_X8_readClause mt rd).2.1.2.2.2.2.2.2 = mt.2.2.2.2.2.2 := by
  have n1 : ∀ {m : MTx} {a b : Int32}, mtOk m → (f_X8_number m a b).2.2.2.2.2.2.2 = m.2.2.2.2.2.2 := fun h => (nt_all h).2.2.2.1
  have h1 : mtOk (f_X8_number mt (nI 0) (nI (mN rd) - nI 1)).2 := num_ok h
  have e1 := n1 (a := nI 0) (b := nI (mN rd) - nI 1) h
  unfold f_X8_readClause
  split
  · split
    · split
      · split
        · (try dsimp only)
          exact e1
        · (try dsimp only)
          exact (rs_cl h1).trans e1
      · split
        · (try dsimp only)
          exact rs_cl h
        · split
          · rfl
          · rfl
    · (try dsimp only)
      exact rp_cl h
  · rfl
theorem mtInc_ok {m : MTx} (h : mtOk m) : mtOk (mtInc m) := ⟨h.1, h.2.1, h.2.2⟩
theorem rt1 {g T1 : MTx} (e1 : T1 = f_X8_nextToken g) (im : mtOk g) : mtOk T1 ∧ T1.2.2.2.2.2.2 = g.2.2.2.2.2.2 := by
  subst e1
  exact ⟨nt_ok im, (nt_all im).2.2.2.1⟩
theorem rt2 {T1 : MTx} {rd : Nat → Int32} {T2 : MTx × (Nat → Int32)} (e2 : T2 = (f_X8_readClause T1 rd).2) (im : mtOk T1) (ir : rdOk rd) : mtOk (mtInc T2.1) ∧ rdOk T2.2 ∧ T2.1.2.2.2.2.2.2 = T1.2.2.2.2.2.2 := by
  subst e2
  exact ⟨mtInc_ok (rc_ok im ir).1, (rc_ok im ir).2, rc_cl im⟩
theorem rt3 {g T1 : MTx} {rd : Nat → Int32} {T2 : MTx × (Nat → Int32)} {T3 : MTx} (e1 : T1 = f_X8_nextToken g) (e2 : T2 = (f_X8_readClause T1 rd).2) (e3 : T3 = f_X8_nextToken (mtInc T2.1)) (im : mtOk g) (ir : rdOk rd) : mtOk T3 ∧ rdOk T2.2 ∧ T3.2.2.2.2.2.2 = g.2.2.2.2.2.2 + 1 := by
  have h1 := rt1 e1 im
  have h2 := rt2 e2 h1.1 ir
  have h3 := rt1 e3 h2.1
  refine ⟨h3.1, h2.2.1, ?_⟩
  have h4 : (mtInc T2.1).2.2.2.2.2.2 = T2.1.2.2.2.2.2.2 + 1 := rfl
  rw [h3.2, h4, h2.2.2, h1.2]
