/-! fault and top -/
theorem copy5 {F : Nat → Nat → (Nat → Int32) → (Nat → Int32) → (Nat → Int32) → (Nat → Int32) → (Nat → Int64) → (Nat → Int32) × (Nat → Int32) × (Nat → Int32) × (Nat → Int32) × (Nat → Int64)} {g0 g1 g2 g3 : Nat → Int32} {g4 : Nat → Int64} (h0 : ∀ k a b c d e, F 0 k a b c d e = (a, b, c, d, e)) (hs : ∀ n k a b c d e, F (n + 1) k a b c d e = F n (k + 1) (upd a k (g0 k)) (upd b k (g1 k)) (upd c k (g2 k)) (upd d k (g3 k)) (vp_updL e k (g4 k))) : ∀ (n k : Nat) (a b c d : Nat → Int32) (e : Nat → Int64) (j : Nat), ((k ≤ j ∧ j < k + n) → (F n k a b c d e).1 j = g0 j ∧ (F n k a b c d e).2.1 j = g1 j ∧ (F n k a b c d e).2.2.1 j = g2 j ∧ (F n k a b c d e).2.2.2.1 j = g3 j ∧ (F n k a b c d e).2.2.2.2 j = g4 j) ∧ (j < k → (F n k a b c d e).1 j = a j ∧ (F n k a b c d e).2.1 j = b j ∧ (F n k a b c d e).2.2.1 j = c j ∧ (F n k a b c d e).2.2.2.1 j = d j ∧ (F n k a b c d e).2.2.2.2 j = e j)
  | 0, k, a, b, c, d, e, j => by
    rw [h0]
    exact ⟨fun h => by omega, fun _ => ⟨rfl, rfl, rfl, rfl, rfl⟩⟩
  | n + 1, k, a, b, c, d, e, j => by
    rw [hs]
    have ih := copy5 h0 hs n (k + 1) (upd a k (g0 k)) (upd b k (g1 k)) (upd c k (g2 k)) (upd d k (g3 k)) (vp_updL e k (g4 k)) j
    refine ⟨fun h => ?_, fun h => ?_⟩
    · by_cases z : j = k
      · subst z
        have h2 := ih.2 (by omega)
        rw [pk_us, pk_us, pk_us, pk_us, pk_uLs] at h2
        exact h2
      · exact ih.1 (by omega)
    · have h2 := ih.2 (by omega)
      rw [pk_un (by omega), pk_un (by omega), pk_un (by omega), pk_un (by omega), pk_uLn (by omega)] at h2
      exact h2
theorem copy_d {td dr : XTd} {to : Nat → Int32} {rd : Nat → Int32} (h : toldR td to) (hr : ∀ j, j < 145 → rd j = to j) : toldR (f_X6_copyFrom_d td dr) rd := by
  have hc := fun j (hj : j < 6) => (copy5 (F := L_X6_copyFrom_d_2 td) (g0 := td.1) (g1 := td.2.1) (g2 := td.2.2.1) (g3 := td.2.2.2.1) (g4 := td.2.2.2.2.1) (fun _ _ _ _ _ _ => rfl) (fun _ _ _ _ _ _ _ => rfl) 6 0 dr.1 dr.2.1 dr.2.2.1 dr.2.2.2.1 dr.2.2.2.2.1 j).1 (by omega)
  exact toldR_cong (td := td) (td' := f_X6_copyFrom_d td dr) rfl (fun p hp => (hc p hp).1) (fun p hp => (hc p hp).2.1) (fun p hp => (hc p hp).2.2.1) (fun p hp => (hc p hp).2.2.2.1) (fun p hp => (hc p hp).2.2.2.2) rfl hr h
theorem copy_t {td dr : XTd} {to : Nat → Int32} {rd : Nat → Int32} (h : toldR dr rd) (hr : ∀ j, j < 145 → to j = rd j) : toldR (f_X6_copyFrom_t td dr) to := by
  have hc := fun j (hj : j < 6) => (copy5 (F := L_X6_copyFrom_t_2 dr) (g0 := dr.1) (g1 := dr.2.1) (g2 := dr.2.2.1) (g3 := dr.2.2.2.1) (g4 := dr.2.2.2.2.1) (fun _ _ _ _ _ _ => rfl) (fun _ _ _ _ _ _ _ => rfl) 6 0 td.1 td.2.1 td.2.2.1 td.2.2.2.1 td.2.2.2.2.1 j).1 (by omega)
  exact toldR_cong (td := dr) (td' := f_X6_copyFrom_t td dr) rfl (fun p hp => (hc p hp).1) (fun p hp => (hc p hp).2.1) (fun p hp => (hc p hp).2.2.1) (fun p hp => (hc p hp).2.2.2.1) (fun p hp => (hc p hp).2.2.2.2) rfl hr h
theorem read_ok {tx : XTx} {mt : MTx} {td dr : XTd} {to rd : Nat → Int32} (h : textR tx mt) (hT : toldR td to) : textR (f_X5_readInto tx (f_X6_copyFrom_d td dr)).2.1 (f_X8_readText to mt rd).2.1 ∧ (((f_X8_readText to mt rd).1 = 0 ∧ (f_X5_readInto tx (f_X6_copyFrom_d td dr)).1 = nI (f_X8_readText to mt rd).2.1.2.2.2.2.2.1) ∨ (¬ (f_X8_readText to mt rd).1 = 0 ∧ (f_X5_readInto tx (f_X6_copyFrom_d td dr)).1 = -1 ∧ toldR (f_X5_readInto tx (f_X6_copyFrom_d td dr)).2.2 (f_X8_readText to mt rd).2.2 ∧ (f_X8_readText to mt rd).2.1.2.2.2.2.2.2 = (f_X5_readInto tx (f_X6_copyFrom_d td dr)).2.1.2.2.2.2.2)) := by
  unfold f_X5_readInto f_X8_readText
  rw [show (14 : Nat) = 13 + 1 from rfl]
  refine into_loop 13 0 (tx.1, tx.2.1, tx.2.2.1, 0, tx.2.2.2.2.1, 0) (mt.1, mt.2.1, 0, mt.2.2.2.1, mt.2.2.2.2.1, mt.2.2.2.2.2.1, 0) (f_X6_copyFrom_d td dr) (L_X8_readText_12 to 145 0 rd) rfl ⟨⟨h.1, h.2.1, h.2.2.1, h.2.2.2⟩, rfl, Nat.zero_le _, rfl⟩ (copy_d hT (fun j hj => ?_)) rfl
  rw [fill1 (F := L_X8_readText_12 to) (o := 0) (g := to) (fun _ _ => rfl) (fun _ k _ => by rw [Nat.zero_add]; rfl) 145 0 rd j, if_pos (by omega)]
  rfl
theorem fault_ok {tx : XTx} {mt : MTx} {td dr : XTd} {to rd : Nat → Int32} (h : textR tx mt) (hT : toldR td to) : (f_X7_fault tx td dr).1 = (f_X8_fault to mt rd).1 ∧ textR (f_X7_fault tx td dr).2.1 (f_X8_fault to mt rd).2.1 := by
  have hr := read_ok (dr := dr) (rd := rd) h hT
  unfold f_X7_fault f_X8_fault
  generalize f_X5_readInto tx (f_X6_copyFrom_d td dr) = X at hr ⊢
  generalize f_X8_readText to mt rd = Y at hr ⊢
  obtain ⟨h1, ⟨h2, h3⟩ | ⟨h2, h3, _⟩⟩ := hr
  · (try dsimp only)
    rw [if_pos h2]
    exact ⟨h3, h1⟩
  · (try dsimp only)
    rw [if_neg h2]
    exact ⟨h3, h1⟩
theorem anew_val (to st : Nat → Int32) : (∀ j, j < 60 → f_X8_anew to st j = to (25 + j)) ∧ (∀ p, p < 6 → f_X8_anew to st (60 + p) = -1 ∧ f_X8_anew to st (66 + p) = nI 0) ∧ f_X8_anew to st 72 = nI 0 := by
  have h1 : ∀ j, j < 60 → L_X8_anew_2 to 60 0 st j = to (25 + j) := fun j hj => by
    rw [fill1 (F := L_X8_anew_2 to) (o := 0) (g := fun k => to (25 + k)) (fun _ _ => rfl) (fun _ k _ => by rw [Nat.zero_add]; rfl) 60 0 st j, if_pos (by omega)]
    rfl
  have h2 : ∀ (n k : Nat) (w : Nat → Int32), k + n ≤ 6 → (∀ j, j < 60 → L_X8_anew_31 n k w j = w j) ∧ (∀ p, p < 6 → (L_X8_anew_31 n k w (60 + p) = if k ≤ p ∧ p < k + n then -1 else w (60 + p)) ∧ (L_X8_anew_31 n k w (66 + p) = if k ≤ p ∧ p < k + n then nI 0 else w (66 + p))) := by
    intro n
    induction n with
    | zero => exact fun k w _ => ⟨fun j hj => rfl, fun p hp => ⟨by rw [if_neg (by omega)]; rfl, by rw [if_neg (by omega)]; rfl⟩⟩
    | succ n ih =>
      intro k w hk
      rw [L_X8_anew_31]
      obtain ⟨i1, i2⟩ := ih (k + 1) (upd (upd w (60 + k) (-1)) (66 + k) (nI 0)) (by omega)
      refine ⟨fun j hj => by rw [i1 j hj, pk_un (by omega), pk_un (by omega)], fun p hp => ?_⟩
      rw [(i2 p hp).1, (i2 p hp).2]
      by_cases c : k + 1 ≤ p ∧ p < k + 1 + n
      · rw [if_pos c, if_pos c, if_pos (by omega), if_pos (by omega)]
        exact ⟨rfl, rfl⟩
      · rw [if_neg c, if_neg c]
        by_cases e : p = k
        · subst e
          rw [if_pos (by omega), if_pos (by omega), pk_us, pk_un (by omega), pk_us]
          exact ⟨rfl, rfl⟩
        · rw [if_neg (by omega), if_neg (by omega), pk_un (by omega), pk_un (by omega), pk_un (by omega), pk_un (by omega)]
          exact ⟨rfl, rfl⟩
  obtain ⟨i1, i2⟩ := h2 6 0 (L_X8_anew_2 to 60 0 st) (by omega)
  unfold f_X8_anew
  refine ⟨fun j hj => by rw [pk_un (by omega), i1 j hj, h1 j hj], fun p hp => ⟨?_, ?_⟩, pk_us⟩
  · rw [pk_un (by omega), (i2 p hp).1, if_pos (by omega)]
  · rw [pk_un (by omega), (i2 p hp).2, if_pos (by omega)]
theorem day_anew {td : XTd} {to st : Nat → Int32} {sta : Nat → Int32} {la : Nat → Int64} (hT : toldR td to) (h1 : ∀ p, p < 6 → sta p = -1) (h2 : ∀ p, p < 6 → la p = td.2.2.2.2.1 p) : dayR (pN td) sta la (nI 0) (nI 0) (f_X8_anew to st) := by
  obtain ⟨a1, a2, a3⟩ := anew_val to st
  refine ⟨ownR_cong h2 a1 hT.2.2.2.1, fun p hp => ?_, fun p hp => ?_, fun p _ => by rw [nI_0, bI_0], a3, 0, by omega, rfl⟩
  · rw [(a2 p hp).1, h1 p hp]
    exact ⟨rfl, Or.inl rfl⟩
  · rw [(a2 p hp).2, nI_0, bI_0, if_neg (by decide)]
theorem begin_day {td : XTd} {to st : Nat → Int32} (dy : XDy) (hT : toldR td to) : dayX (pN td) (f_X0_beginAs td dy) (f_X8_anew to st) := by
  have hb := fun j (hj : j < 6) => put2 (F := L_X0_beginAs_2 td) (o := 0) (g := fun _ => (-1 : Int32)) (h := fun k => f_X6_deedOf td (nI k)) (fun _ _ _ => rfl) (fun _ k _ _ => by rw [Nat.zero_add]; rfl) 6 0 dy.1 dy.2.1 j
  refine day_anew hT (fun p hp => ?_) (fun p hp => ?_)
  · refine ((hb p hp).1).trans ?_
    rw [if_pos (by omega)]
  · refine ((hb p hp).2).trans ?_
    rw [if_pos (by omega)]
    exact deed_of hp
theorem top_ok {tx : XTx} {td dr : XTd} {dy : XDy} {pn : Nat × Nat} {ps ks : XSh} {si : XSi} {kb : Int32} {to st : Nat → Int32} {mt : MTx} {rd : Nat → Int32} {un : MUn} {kp rw_ : MKp} {se : MUn} (h : Rel tx td dy pn ps ks si kb to st mt un kp rw_ se) : (f_X7_top tx td dr dy pn si kb).1 = (f_X8_top to st mt rd un kp se).1 ∧ Rel (f_X7_top tx td dr dy pn si kb).2.1 (f_X7_top tx td dr dy pn si kb).2.2.1 (f_X7_top tx td dr dy pn si kb).2.2.2.2.1 (f_X7_top tx td dr dy pn si kb).2.2.2.2.2.1 ps ks (f_X7_top tx td dr dy pn si kb).2.2.2.2.2.2.1 (f_X7_top tx td dr dy pn si kb).2.2.2.2.2.2.2 (f_X8_top to st mt rd un kp se).2.1 (f_X8_top to st mt rd un kp se).2.2.1 (f_X8_top to st mt rd un kp se).2.2.2.1 (f_X8_top to st mt rd un kp se).2.2.2.2.2.1 (f_X8_top to st mt rd un kp se).2.2.2.2.2.2.1 rw_ (f_X8_top to st mt rd un kp se).2.2.2.2.2.2.2 := by
  obtain ⟨hX, hT, hD, hU, hK, hS, hR⟩ := h
  have hr := read_ok (dr := dr) (rd := rd) hX hT
  unfold f_X7_top f_X8_top
  generalize f_X5_readInto tx (f_X6_copyFrom_d td dr) = X at hr ⊢
  generalize f_X8_readText to mt rd = Y at hr ⊢
  obtain ⟨h1, ⟨h2, h3⟩ | ⟨h2, h3, h4, h5⟩⟩ := hr
  · have h160 : Y.2.1.2.2.2.2.2.1 ≤ 160 := h1.2.2.1
    rw [if_pos h2, if_neg (show ¬ X.1 = -1 by rw [h3]; exact (ge0 (by omega)).2.1)]
    exact ⟨rfl, h1, hT, hD, hU, hK, hS, hR⟩
  · rw [if_neg h2, if_pos h3]
    have hT2 : toldR (f_X6_copyFrom_t td X.2.2) (L_X8_top_17 Y.2 145 0 to) := copy_t h4 (fun j hj => by
      rw [fill1 (F := L_X8_top_17 Y.2) (o := 0) (g := Y.2.2) (fun _ _ => rfl) (fun _ k _ => by rw [Nat.zero_add]; rfl) 145 0 to j, if_pos (by omega)]
      rfl)
    refine ⟨?_, ⟨Nat.zero_le _, rfl, h1.2.2.1, fun k hk => absurd hk (Nat.not_lt_zero k)⟩, hT2, begin_day dy hT2, ⟨hU.1, Nat.zero_le _, rfl, fun i hi => absurd hi (Nat.not_lt_zero i)⟩, fun k hk => ?_, ⟨Nat.zero_le _, rfl, fun i hi => absurd hi (Nat.not_lt_zero i)⟩, hR⟩
    · show nI X.2.1.2.2.2.2.2 = nI Y.2.1.2.2.2.2.2.2
      rw [h5]
    · (try dsimp only)
      rw [nI_0, bI_0]
      refine ⟨?_, fun z => absurd z (by decide)⟩
      rw [if_neg (by decide)]
      have hk2 : k = 0 ∨ k = 1 := by omega
      rcases hk2 with rfl | rfl
      · rw [pk_un (by decide), pk_us]
        decide +kernel
      · rw [pk_us]
        decide +kernel
