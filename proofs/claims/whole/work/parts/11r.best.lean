/-! write, erase, seen, forget; best, clocks, clear -/
theorem write_ok {tx : XTx} {mt : MTx} (h : textR tx mt) (le : Int32) : (f_X7_write tx le).1 = (f_X8_write mt le).1 ∧ textR (f_X7_write tx le).2 (f_X8_write mt le).2 := by
  have h0 := h
  obtain ⟨a, b, c, d⟩ := h
  unfold f_X7_write f_X8_write
  rw [within_in le (nI 0) (nI 255) (lo := 0) (hi := 255) (by decide +kernel) (by decide +kernel)]
  by_cases h1 : f_X8_in le.toInt64 (0 : Int64) (255 : Int64) = 0
  · rw [if_pos h1, if_pos h1]
    exact ⟨rfl, h0⟩
  · rw [if_neg h1, if_neg h1, b]
    obtain ⟨k, hk, e⟩ := in_ex (N := 256) (by decide +kernel) h1
    unfold f_X5_add f_X5_size
    by_cases h2 : tx.2.1 < 160
    · rw [if_pos h2, if_neg (show ¬ tx.2.1 = 160 by omega)]
      (try dsimp only)
      rw [if_neg (show ¬ nI 1 = 0 by decide)]
      refine ⟨rfl, by (try dsimp only); omega, rfl, c, fun j hj => ?_⟩
      (try dsimp only at hj ⊢)
      by_cases z : j = tx.2.1
      · subst z
        rw [pk_us, pk_us]
        exact ⟨rfl, k, by omega, e⟩
      · rw [pk_un z, pk_un z]
        exact d j (by omega)
    · rw [if_neg h2, if_pos (show tx.2.1 = 160 by omega)]
      (try dsimp only)
      rw [if_pos nI_0]
      exact ⟨rfl, h0⟩
theorem erase_ok {tx : XTx} {mt : MTx} (h : textR tx mt) : (f_X7_erase tx).1 = (f_X8_erase mt).1 ∧ textR (f_X7_erase tx).2 (f_X8_erase mt).2 := by
  obtain ⟨a, b, c, d⟩ := h
  exact ⟨by show nI tx.2.1 = nI mt.2.1; rw [b], Nat.zero_le _, rfl, c, fun j hj => absurd hj (Nat.not_lt_zero j)⟩
theorem seen_ok {td : XTd} {to : Nat → Int32} {si : XSi} {se : MUn} (hT : toldR td to) (h : seenR (pN td) si se) (pe fi : Int32) : (f_X7_seen td si pe fi).1 = (f_X8_seen to se pe fi).1 ∧ seenR (pN td) (f_X7_seen td si pe fi).2 (f_X8_seen to se pe fi).2 := by
  have h6 : pN td ≤ 6 := hT.1
  have h0 := h
  obtain ⟨a, b, c⟩ := h
  unfold f_X7_seen f_X8_seen
  by_cases h1 : f_X6_knows td pe = 0
  · rw [if_pos h1, if_pos ((knows_person hT pe).mp h1)]
    exact ⟨rfl, h0⟩
  · rw [if_neg h1, if_neg (fun q => h1 ((knows_person hT pe).mpr q)), within_in fi (nI 0) (nI 99) (lo := 0) (hi := 99) (by decide +kernel) (by decide +kernel)]
    by_cases h2 : f_X8_in fi.toInt64 (0 : Int64) (99 : Int64) = 0
    · rw [if_pos h2, if_pos h2]
      exact ⟨rfl, h0⟩
    · rw [if_neg h2, if_neg h2, b]
      unfold f_X4_add f_X4_size
      by_cases h3 : si.2.2 < 6
      · rw [if_pos h3, if_neg (show ¬ si.2.2 = 6 by omega)]
        (try dsimp only)
        rw [if_neg (show ¬ nI 1 = 0 by decide)]
        refine ⟨rfl, by (try dsimp only); omega, rfl, fun i hi => ?_⟩
        (try dsimp only at hi ⊢)
        by_cases z : i = si.2.2
        · subst z
          rw [pk_un (by omega), pk_us, pk_us, pk_us, pk_us]
          exact ⟨rfl, rfl, (knows_iff h6 pe).mp h1⟩
        · rw [pk_un (show ¬ 2 * i = 2 * si.2.2 + 1 by omega), pk_un (show ¬ 2 * i = 2 * si.2.2 by omega), pk_un (show ¬ 2 * i + 1 = 2 * si.2.2 + 1 by omega), pk_un (show ¬ 2 * i + 1 = 2 * si.2.2 by omega), pk_un z, pk_un z]
          exact c i (by omega)
      · rw [if_neg h3, if_pos (show si.2.2 = 6 by omega)]
        (try dsimp only)
        rw [if_pos nI_0]
        exact ⟨rfl, h0⟩
theorem forget_ok {P : Nat} {si : XSi} {se : MUn} (h : seenR P si se) : (f_X7_forget si).1 = (f_X8_forget se).1 ∧ seenR P (f_X7_forget si).2 (f_X8_forget se).2 := by
  obtain ⟨a, b, c⟩ := h
  exact ⟨by show nI si.2.2 = nI se.2; rw [b], Nat.zero_le _, rfl, fun j hj => absurd hj (Nat.not_lt_zero j)⟩
/-- his fine if he started so -/
theorem fineFrom_eq {td : XTd} {to : Nat → Int32} {dy : XDy} {st w : Nat → Int32} (hT : toldR td to) (hD : dayX (pN td) dy st) {p s : Nat} (hp : p < pN td) (hs : s < 1000) (hw : ∀ j, j ≠ 60 + p → w j = st j) (h60 : w (60 + p) = nI s) : f_X1_fineFrom td dy (nI p) (nI s) = f_X8_fineOf to w p := by
  have h6 : pN td ≤ 6 := hT.1
  obtain ⟨h5, c, hc, h7⟩ := day_clk hD
  unfold f_X1_fineFrom f_X8_fineOf
  rw [fine_core (to := to) (st := w) hT hp (fun q hq => ⟨by rw [hw _ (by omega)]; exact (day_sta hD (by omega)).1, (day_sta hD (by omega)).2⟩) h60 (Or.inr ⟨s, hs, rfl⟩) (by rw [hw _ (by omega)]; exact h5) h7 hc, fullFine_num hT (ownR_cong (fun _ _ => rfl) (fun j hj => hw j (by omega)) hD.1) hp]
  exact withRope_eq (by omega) (by rw [hw _ (by omega)]; exact hD.2.2.1 p (by omega))
theorem best_rest (to : Nat → Int32) {st : Nat → Int32} {p w sy c : Nat} (hp : p < 6) (hw : f_X8_walkOf to p = nI w) (hy : to (13 + p) = nI sy) (h72 : st 72 = nI c) (b : w + sy + c < 1000) (x5 x4 : Int32) : ∀ (n k : Nat) (v : Nat → Int32), k + n ≤ 60 → 60 < k + w + c + sy → (∀ j, j ≠ 60 + p → v j = st j) → (L_X8_best_43 to (nI p) n k x5 x4 v).1 = x5 ∧ (L_X8_best_43 to (nI p) n k x5 x4 v).2.1 = x4 ∧ ∀ j, j ≠ 60 + p → (L_X8_best_43 to (nI p) n k x5 x4 v).2.2 j = st j
  | 0, k, v, _, _, hv => ⟨rfl, rfl, hv⟩
  | n + 1, k, v, h1, h2, hv => by
    have e : (if nI 60 < ((f_X8_thereBy to (upd v (60 + (nI p).toNatClampNeg) (nI k)) (nI p).toNatClampNeg (nI k)) + (to (13 + (nI p).toNatClampNeg))) then nI 0 else nI 1) = 0 := by
      unfold f_X8_thereBy
      rw [nI_clamp (by omega), pk_un (by omega), hv _ (by omega), hw, hy, h72, nI_add, nI_add, nI_add, if_pos (nI_lt (by omega) (by omega))]
      exact nI_0
    rw [L_X8_best_43, if_pos e]
    refine best_rest to hp hw hy h72 b x5 x4 n (k + 1) _ (by omega) (by omega) (fun j hj => ?_)
    rw [nI_clamp (by omega), pk_un hj]
    exact hv j hj
theorem best_loop {td : XTd} {to : Nat → Int32} {dy : XDy} {st : Nat → Int32} (hT : toldR td to) (hD : dayX (pN td) dy st) {p : Nat} (hp : p < pN td) : ∀ (n k : Nat) (x5 x4 : Int32) (v : Nat → Int32), k + n = 60 → (x4 = -1 ∨ ∃ s, s < 60 ∧ x4 = nI s ∧ x5 = f_X1_fineFrom td dy (nI p) (nI s)) → (∀ j, j ≠ 60 + p → v j = st j) → (L_X8_best_43 to (nI p) n k x5 x4 v).1 = (L_X1_bestStart_36 td dy (nI p) n k x5 x4).1 ∧ (L_X8_best_43 to (nI p) n k x5 x4 v).2.1 = (L_X1_bestStart_36 td dy (nI p) n k x5 x4).2 ∧ (∀ j, j ≠ 60 + p → (L_X8_best_43 to (nI p) n k x5 x4 v).2.2 j = st j) ∧ ((L_X1_bestStart_36 td dy (nI p) n k x5 x4).2 = -1 ∨ ∃ s, s < 60 ∧ (L_X1_bestStart_36 td dy (nI p) n k x5 x4).2 = nI s ∧ (L_X1_bestStart_36 td dy (nI p) n k x5 x4).1 = f_X1_fineFrom td dy (nI p) (nI s))
  | 0, k, x5, x4, v, _, hx, hv => by
    have e : L_X1_bestStart_36 td dy (nI p) 0 k x5 x4 = (x5, x4) := by
      rw [L_X1_bestStart_36, ite_self]
    rw [e]
    exact ⟨rfl, rfl, hv, hx⟩
  | n + 1, k, x5, x4, v, hk, hx, hv => by
    have h6 : pN td ≤ 6 := hT.1
    obtain ⟨h5, c, hc, h7⟩ := day_clk hD
    obtain ⟨w1, w2, w3, w4⟩ := told_walk hT hp
    obtain ⟨y1, y2, y3, y4⟩ := told_stay hT hp
    have ew : (nI k + (f_X6_walkOf td (nI p) + dy.2.2.2 + f_X6_stayOf td (nI p) - nI 1)) = nI (k + (wkN to p + c + stN to p - 1)) := by
      rw [w1, y1, h7, nI_add, nI_add, pk_sub (by omega), nI_add]
    by_cases hb : 60 < k + wkN to p + c + stN to p
    · have e1 : L_X1_bestStart_36 td dy (nI p) (n + 1) k x5 x4 = (x5, x4) := by
        rw [L_X1_bestStart_36, ew, if_pos (nI_lt (by omega) (by omega))]
      rw [e1]
      obtain ⟨r1, r2, r3⟩ := best_rest to (st := st) (by omega) w2 y2 (h5.trans h7) (by omega) x5 x4 (n + 1) k v (by omega) hb hv
      exact ⟨r1, r2, r3, hx⟩
    · have e : ¬ (if nI 60 < ((f_X8_thereBy to (upd v (60 + (nI p).toNatClampNeg) (nI k)) (nI p).toNatClampNeg (nI k)) + (to (13 + (nI p).toNatClampNeg))) then nI 0 else nI 1) = 0 := by
        unfold f_X8_thereBy
        rw [nI_clamp (by omega), pk_un (by omega), hv _ (by omega), w2, y2, h5, h7, nI_add, nI_add, nI_add, if_neg (nI_nlt (by omega) (by omega))]
        decide
      have hf : f_X1_fineFrom td dy (nI p) (nI k) = f_X8_fineOf to (upd v (60 + (nI p).toNatClampNeg) (nI k)) (nI p).toNatClampNeg := by
        rw [nI_clamp (by omega)]
        exact fineFrom_eq hT hD hp (by omega) (fun j hj => by rw [pk_un hj]; exact hv j hj) pk_us
      have hv' : ∀ j, j ≠ 60 + p → upd v (60 + (nI p).toNatClampNeg) (nI k) j = st j := fun j hj => by
        rw [nI_clamp (by omega), pk_un hj]
        exact hv j hj
      rw [L_X8_best_43, if_neg e, if_neg e, L_X1_bestStart_36, ew, if_neg (nI_nlt (by omega) (by omega)), ← hf]
      rcases hx with hx | ⟨s, hs, hx, hx5⟩
      · rw [if_pos hx, if_pos (show x4 < 0 by rw [hx]; decide)]
        exact best_loop hT hD hp n (k + 1) _ _ _ (by omega) (Or.inr ⟨k, by omega, rfl, rfl⟩) hv'
      · rw [if_neg (c := x4 = -1) (fun z => nI_pos (n := s) (by omega) (by rw [← hx, z]; decide)), if_neg (show ¬ x4 < 0 by rw [hx]; exact nI_pos (by omega))]
        by_cases hl : x5 ≤ f_X1_fineFrom td dy (nI p) (nI k)
        · rw [if_pos hl, if_pos hl]
          exact best_loop hT hD hp n (k + 1) _ _ _ (by omega) (Or.inr ⟨s, hs, hx, hx5⟩) hv'
        · rw [if_neg hl, if_neg hl]
          exact best_loop hT hD hp n (k + 1) _ _ _ (by omega) (Or.inr ⟨k, by omega, rfl, rfl⟩) hv'
theorem best_ok {td : XTd} {to : Nat → Int32} {dy : XDy} {st : Nat → Int32} (hT : toldR td to) (hD : dayX (pN td) dy st) (pe wh : Int32) : f_X7_best td dy pe wh = (f_X8_best to st pe wh).1 ∧ dayX (pN td) dy (f_X8_best to st pe wh).2 := by
  have h6 : pN td ≤ 6 := hT.1
  unfold f_X7_best f_X8_best
  by_cases h : f_X6_knows td pe = 0
  · rw [if_pos h, if_pos ((knows_person hT pe).mp h)]
    exact ⟨rfl, hD⟩
  · rw [if_neg h, if_neg (fun q => h ((knows_person hT pe).mpr q)), within_in wh (nI 0) (nI 1) (lo := 0) (hi := 1) (by decide +kernel) (by decide +kernel)]
    by_cases h2 : f_X8_in wh.toInt64 (0 : Int64) (1 : Int64) = 0
    · rw [if_pos h2, if_pos h2]
      exact ⟨rfl, hD⟩
    · rw [if_neg h2, if_neg h2]
      obtain ⟨p, hp, e⟩ := (knows_iff h6 pe).mp h
      have hp : p < pN td := hp
      subst e
      obtain ⟨r1, r2, r3, r4⟩ := best_loop hT hD hp 60 0 (nI 0) (-1) st (by omega) (Or.inl rfl) (fun _ _ => rfl)
      unfold f_X1_bestStart
      generalize L_X1_bestStart_36 td dy (nI p) 60 0 (nI 0) (-1) = X at r1 r2 r4 ⊢
      generalize L_X8_best_43 to (nI p) 60 0 (nI 0) (-1) st = Y at r1 r2 r3 ⊢
      (try dsimp only)
      refine ⟨?_, dayR_cong (fun _ _ => rfl) (fun _ _ => rfl) (fun j hj => ?_) rfl rfl hD⟩
      · rw [r1, r2]
        rcases r4 with r4 | ⟨s, hs, r4, r5⟩
        · rw [if_pos r4, if_neg (show ¬ 0 ≤ X.2 by rw [r4]; decide), r4]
        · rw [if_neg (c := X.2 = -1) (fun z => nI_pos (n := s) (by omega) (by rw [← r4, z]; decide)), if_pos (show 0 ≤ X.2 by rw [r4]; exact nI_pos' (by omega)), r5, r4]
      · rw [nI_clamp (by omega)]
        by_cases z : j = 60 + p
        · rw [z, pk_us]
        · rw [pk_un z]
          exact r3 j z
/-- fines by another clock -/
theorem fine_clk {td : XTd} {to : Nat → Int32} {dy : XDy} {st w : Nat → Int32} (hT : toldR td to) (hD : dayX (pN td) dy st) {p c : Nat} (hp : p < pN td) (hc : c ≤ 9) (hw : ∀ j, j ≠ 72 → w j = st j) (h72 : w 72 = nI c) : f_X1_fine td dy (nI p) (nI c) = f_X8_fineOf to w p := by
  have h6 : pN td ≤ 6 := hT.1
  unfold f_X1_fine f_X1_wholeFine f_X8_fineOf
  rw [start_of (by omega), fine_core (to := to) (st := w) hT hp (fun q hq => ⟨by rw [hw _ (by omega)]; exact (day_sta hD (by omega)).1, (day_sta hD (by omega)).2⟩) (by rw [hw _ (by omega)]; exact (day_sta hD (by omega)).1) (day_sta hD (by omega)).2 h72 rfl hc, fullFine_num hT (ownR_cong (fun _ _ => rfl) (fun j hj => hw j (by omega)) hD.1) hp]
  exact withRope_eq (by omega) (by rw [hw _ (by omega)]; exact hD.2.2.1 p (by omega))
theorem fit_z (to : Nat → Int32) (se : MUn) (w : Nat → Int32) (c : Nat) : ∀ n k, L_X8_clocks_32_b to se w c n k (nI 0) = nI 0
  | 0, _ => rfl
  | n + 1, k => by
    rw [L_X8_clocks_32_b, if_pos nI_0]
    exact fit_z to se w c n (k + 1)
theorem fit_loop {td : XTd} {to : Nat → Int32} {dy : XDy} {st w : Nat → Int32} {si : XSi} {se : MUn} (hT : toldR td to) (hD : dayX (pN td) dy st) (hS : seenR (pN td) si se) {c : Nat} (hc : c ≤ 9) (hw : ∀ j, j ≠ 72 → w j = st j) : ∀ n k, k + n ≤ si.2.2 → L_X4_fit_2 td dy si (nI c) n k = L_X8_clocks_32_b to se w c n k (nI 1)
  | 0, _, _ => rfl
  | n + 1, k, h => by
    have h6 : pN td ≤ 6 := hT.1
    obtain ⟨s1, s2, p, hp, s3⟩ := hS.2.2 k (by omega)
    rw [L_X4_fit_2, L_X8_clocks_32_b, if_neg (show ¬ nI 1 = 0 by decide), s1, s2, s3, nI_clamp (by omega), fine_clk (w := upd w 72 (nI c)) hT hD hp hc (fun j hj => by rw [pk_un hj]; exact hw j hj) pk_us]
    by_cases z : f_X8_fineOf to (upd w 72 (nI c)) p = si.2.1 k
    · rw [if_pos z, if_pos z]
      exact fit_loop hT hD hS hc hw n (k + 1) (by omega)
    · rw [if_neg z, if_neg z, fit_z]
theorem clocks_loop {td : XTd} {to : Nat → Int32} {dy : XDy} {st : Nat → Int32} {si : XSi} {se : MUn} (hT : toldR td to) (hD : dayX (pN td) dy st) (hS : seenR (pN td) si se) : ∀ n k x w, k + n ≤ 10 → (∀ j, j ≠ 72 → w j = st j) → L_X7_clocks_4 td dy si n k x = (L_X8_clocks_12 to se n k x w).1 ∧ ∀ j, j ≠ 72 → (L_X8_clocks_12 to se n k x w).2 j = st j
  | 0, _, _, _, _, hw => ⟨rfl, hw⟩
  | n + 1, k, x, w, h, hw => by
    have e := fit_loop (w := w) hT hD hS (c := k) (by omega) hw si.2.2 0 (by omega)
    have hw' : ∀ j, j ≠ 72 → upd w 72 (nI k) j = st j := fun j hj => by rw [pk_un hj]; exact hw j hj
    rw [L_X7_clocks_4, L_X8_clocks_12, f_X4_fit, hS.2.1, e]
    by_cases z : L_X8_clocks_32_b to se w k si.2.2 0 (nI 1) = 0
    · rw [if_pos z, if_pos z, orI_0]
      exact clocks_loop hT hD hS n (k + 1) x _ (by omega) hw'
    · rw [if_neg z, if_neg z]
      exact clocks_loop hT hD hS n (k + 1) _ _ (by omega) hw'
theorem clocks_ok {td : XTd} {to : Nat → Int32} {dy : XDy} {st : Nat → Int32} {si : XSi} {se : MUn} (hT : toldR td to) (hD : dayX (pN td) dy st) (hS : seenR (pN td) si se) : f_X7_clocks td dy si = (f_X8_clocks to st se).1 ∧ dayX (pN td) dy (f_X8_clocks to st se).2 := by
  obtain ⟨r1, r2⟩ := clocks_loop hT hD hS 10 0 (nI 0) st (by omega) (fun _ _ => rfl)
  refine ⟨r1, dayR_cong (fun _ _ => rfl) (fun _ _ => rfl) (fun j hj => ?_) rfl rfl hD⟩
  unfold f_X8_clocks
  (try dsimp only)
  by_cases z : j = 72
  · rw [z, pk_us]
  · rw [pk_un z]
    exact r2 j z
theorem ct_span (a m : Nat) : ∀ n, fb_ct (fun i => decide (a ≤ i ∧ i < a + m)) n ≤ n - a ∧ fb_ct (fun i => decide (a ≤ i ∧ i < a + m)) n ≤ m
  | 0 => ⟨Nat.zero_le _, Nat.zero_le _⟩
  | n + 1 => by
    obtain ⟨h1, h2⟩ := ct_span a m n
    rw [fb_ct_succ]
    by_cases z : a ≤ n ∧ n < a + m
    · rw [decide_eq_true z, if_pos rfl]
      omega
    · rw [decide_eq_false z, if_neg (by decide)]
      omega
theorem stand_6 {td : XTd} {to : Nat → Int32} {dy : XDy} {st : Nat → Int32} (hT : toldR td to) (hD : dayX (pN td) dy st) {p : Nat} (hp : p < pN td) : fb_ct (SI to st p) 60 ≤ 6 := by
  have h6 : pN td ≤ 6 := hT.1
  obtain ⟨h5, c, hc, h7⟩ := day_clk hD
  obtain ⟨w1, w2, w3, w4⟩ := told_walk hT hp
  obtain ⟨y1, y2, y3, y4⟩ := told_stay hT hp
  obtain ⟨s1, s2⟩ := day_sta hD (q := p) (by omega)
  rcases s2 with s2 | ⟨s, hs, s2⟩
  · rw [fb_ct_zero.mpr (fun k _ => standsIn_m1 (s1.trans s2))]
    omega
  · rw [fb_ct_cong (q := fun i => decide (s + wkN to p + c ≤ i ∧ i < s + wkN to p + c + stN to p)) (fun i hi => standsIn_num w2 y2 (s1.trans s2) (h5.trans h7) w4 y3 y4 hs hc (by omega))]
    have := (ct_span (s + wkN to p + c) (stN to p) 60).2
    omega
theorem clear_all : ∀ n, n < 7 → ∀ k, k < 7 → ∀ q, q < 11 → (f_X7_waysClear n k (nI q) = L_X8_clear_88 (nI k) (nI q) n (2 ^ n) 0 (nI 0) ∧ f_X7_power (nI 10) n = L_X8_clear_65 n 0 (nI 1) ∧ nI 1 ≤ f_X7_commonDivisor (f_X7_waysClear n k (nI q)) (f_X7_power (nI 10) n) ∧ f_X7_commonDivisor (f_X7_waysClear n k (nI q)) (f_X7_power (nI 10) n) = (L_X8_clear_173 (L_X8_clear_65 n 0 (nI 1)).toNatClampNeg (L_X8_clear_65 n 0 (nI 1)) (L_X8_clear_88 (nI k) (nI q) n (2 ^ n) 0 (nI 0))).2) := by decide +kernel
theorem clear_eq {td : XTd} {to : Nat → Int32} {dy : XDy} {st : Nat → Int32} (hT : toldR td to) (hD : dayX (pN td) dy st) (pe kk qq pa : Int32) : f_X7_clear td dy pe kk qq pa = f_X8_clear to st pe kk qq pa := by
  have h6 : pN td ≤ 6 := hT.1
  unfold f_X7_clear f_X8_clear
  by_cases h : f_X6_knows td pe = 0
  · rw [if_pos h, if_pos ((knows_person hT pe).mp h)]
  · rw [if_neg h, if_neg (fun q => h ((knows_person hT pe).mpr q)), within_in kk (nI 0) (nI 6) (lo := 0) (hi := 6) (by decide +kernel) (by decide +kernel), within_in qq (nI 0) (nI 10) (lo := 0) (hi := 10) (by decide +kernel) (by decide +kernel), within_in pa (nI 0) (nI 1) (lo := 0) (hi := 1) (by decide +kernel) (by decide +kernel)]
    by_cases h1 : f_X8_in kk.toInt64 (0 : Int64) (6 : Int64) = 0
    · rw [if_pos h1, if_pos h1]
    · by_cases h2 : f_X8_in qq.toInt64 (0 : Int64) (10 : Int64) = 0
      · rw [if_neg h1, if_neg h1, if_pos h2, if_pos h2]
      · by_cases h3 : f_X8_in pa.toInt64 (0 : Int64) (1 : Int64) = 0
        · rw [if_neg h1, if_neg h1, if_neg h2, if_neg h2, if_pos h3, if_pos h3]
        · rw [if_neg h1, if_neg h1, if_neg h2, if_neg h2, if_neg h3, if_neg h3]
          obtain ⟨p, hp, e⟩ := (knows_iff h6 pe).mp h
          have hp : p < pN td := hp
          subst e
          obtain ⟨k, hk, e⟩ := in_ex (N := 7) (by decide +kernel) h1
          subst e
          obtain ⟨q, hq, e⟩ := in_ex (N := 11) (by decide +kernel) h2
          subst e
          have hn := stand_6 hT hD hp
          rw [nI_clamp (n := p) (by omega), standsNow_ct hT hD hp, standMany_num]
          generalize fb_ct (SI to st p) 60 = n at hn ⊢
          rw [nI_clamp (n := n) (by omega), nI_clamp (n := k) (by omega)]
          obtain ⟨c1, c2, c3, c4⟩ := clear_all n (by omega) k hk q hq
          rw [if_pos c3, c4, c1, c2]
          by_cases z : pa = 0
          · rw [if_pos z, if_pos z]
          · rw [if_neg z, if_neg z]
