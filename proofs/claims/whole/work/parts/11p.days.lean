/-! days: put, fetched, undone, kept -/
abbrev dayX (P : Nat) (dy : XDy) (st : Nat → Int32) : Prop := dayR P dy.1 dy.2.1 dy.2.2.1 dy.2.2.2 st
theorem ownR_cong {P : Nat} {la la' : Nat → Int64} {w w' : Nat → Int32} (h2 : ∀ p, p < 6 → la' p = la p) (h3 : ∀ j, j < 60 → w' j = w j) (h : ownR P la w) : ownR P la' w' := by
  refine ⟨fun s hs => ?_, fun p hp s hs => by rw [h2 p hp]; exact h.2 p hp s hs⟩
  rcases h.1 s hs with ⟨a, b⟩ | ⟨q, hq, a, b⟩
  · exact Or.inl ⟨by rw [h3 s hs]; exact a, fun p hp => by rw [h2 p hp]; exact b p hp⟩
  · exact Or.inr ⟨q, hq, by rw [h3 s hs]; exact a, fun p hp => by rw [h2 p hp]; exact b p hp⟩
theorem dayR_cong {P : Nat} {sta sta' : Nat → Int32} {la la' : Nat → Int64} {ro ro' ck ck' : Int32} {w w' : Nat → Int32} (h1 : ∀ p, p < 6 → sta' p = sta p) (h2 : ∀ p, p < 6 → la' p = la p) (h3 : ∀ j, j < 73 → w' j = w j) (h4 : ro' = ro) (h5 : ck' = ck) (h : dayR P sta la ro ck w) : dayR P sta' la' ro' ck' w' := by
  subst h4
  subst h5
  obtain ⟨a, b, c, d, e, f⟩ := h
  refine ⟨ownR_cong h2 (fun j hj => h3 j (by omega)) a, fun p hp => ?_, fun p hp => ?_, d, ?_, f⟩
  · rw [h1 p hp, h3 _ (by omega)]
    exact b p hp
  · rw [h3 _ (by omega)]
    exact c p hp
  · rw [h3 _ (by omega)]
    exact e
theorem put2 {F : Nat → Nat → (Nat → Int32) → (Nat → Int64) → (Nat → Int32) × (Nat → Int64)} {o : Nat} {g : Nat → Int32} {h : Nat → Int64} (h0 : ∀ k a b, F 0 k a b = (a, b)) (hs : ∀ n k a b, F (n + 1) k a b = F n (k + 1) (upd a (o + k) (g k)) (vp_updL b (o + k) (h k))) : ∀ (n k : Nat) (a : Nat → Int32) (b : Nat → Int64) (j : Nat), ((F n k a b).1 j = if o + k ≤ j ∧ j < o + k + n then g (j - o) else a j) ∧ ((F n k a b).2 j = if o + k ≤ j ∧ j < o + k + n then h (j - o) else b j)
  | 0, k, a, b, j => by
    rw [h0, if_neg (by omega), if_neg (by omega)]
    exact ⟨rfl, rfl⟩
  | n + 1, k, a, b, j => by
    have ih := put2 h0 hs n (k + 1) (upd a (o + k) (g k)) (vp_updL b (o + k) (h k)) j
    rw [hs, ih.1, ih.2]
    by_cases c1 : o + (k + 1) ≤ j ∧ j < o + (k + 1) + n
    · rw [if_pos c1, if_pos c1, if_pos (by omega), if_pos (by omega)]
      exact ⟨rfl, rfl⟩
    · rw [if_neg c1, if_neg c1]
      by_cases c2 : j = o + k
      · subst c2
        rw [pk_us, pk_uLs, if_pos (by omega), if_pos (by omega), Nat.add_sub_cancel_left]
        exact ⟨rfl, rfl⟩
      · rw [pk_un c2, pk_uLn c2, if_neg (by omega), if_neg (by omega)]
        exact ⟨rfl, rfl⟩
theorem fill1 {F : Nat → Nat → (Nat → Int32) → (Nat → Int32)} {o : Nat} {g : Nat → Int32} (h0 : ∀ k w, F 0 k w = w) (hs : ∀ n k w, F (n + 1) k w = F n (k + 1) (upd w (o + k) (g k))) : ∀ (n k : Nat) (w : Nat → Int32) (j : Nat), F n k w j = if o + k ≤ j ∧ j < o + k + n then g (j - o) else w j
  | 0, k, w, j => by rw [h0, if_neg (by omega)]
  | n + 1, k, w, j => by
    rw [hs, fill1 h0 hs n (k + 1) _ j]
    by_cases c1 : o + (k + 1) ≤ j ∧ j < o + (k + 1) + n
    · rw [if_pos c1, if_pos (by omega)]
    · rw [if_neg c1]
      by_cases c2 : j = o + k
      · subst c2
        rw [pk_us, if_pos (by omega), Nat.add_sub_cancel_left]
      · rw [pk_un c2, if_neg (by omega)]
theorem fillG {F : Nat → Nat → (Nat → Int64) → (Nat → Int64)} {g : Nat → Int64 → Int64} (h0 : ∀ k w, F 0 k w = w) (hs : ∀ n k w, F (n + 1) k w = F n (k + 1) (vp_updL w k (g k (w k)))) : ∀ (n k : Nat) (w : Nat → Int64) (j : Nat), F n k w j = if k ≤ j ∧ j < k + n then g j (w j) else w j
  | 0, k, w, j => by rw [h0, if_neg (by omega)]
  | n + 1, k, w, j => by
    rw [hs, fillG h0 hs n (k + 1) _ j]
    by_cases c2 : j = k
    · subst c2
      rw [if_neg (by omega), pk_uLs, if_pos (by omega)]
    · rw [pk_uLn c2]
      by_cases c1 : k + 1 ≤ j ∧ j < k + 1 + n
      · rw [if_pos c1, if_pos (by omega)]
      · rw [if_neg c1, if_neg (by omega)]
theorem shift_val : ∀ (n k : Nat) (w : Nat → Int32) (j : Nat), L_X8_note_11 n k w j = if k ≤ j ∧ j < k + n then w (j + 73) else w j
  | 0, k, w, j => by rw [L_X8_note_11, if_neg (by omega)]
  | n + 1, k, w, j => by
    rw [L_X8_note_11, shift_val n (k + 1) _ j]
    by_cases c1 : k + 1 ≤ j ∧ j < k + 1 + n
    · rw [if_pos c1, if_pos (by omega), pk_un (by omega)]
    · rw [if_neg c1]
      by_cases c2 : j = k
      · subst c2
        rw [pk_us, if_pos (by omega)]
      · rw [pk_un c2, if_neg (by omega)]
theorem put_p_1 (dy : XDy) (ps : XSh) (pl j : Nat) : (f_X3_put_p dy ps pl).1 j = if pl * 6 ≤ j ∧ j < pl * 6 + 6 then dy.1 (j - pl * 6) else ps.1 j := (put2 (F := L_X3_put_p_21 dy pl) (o := pl * 6) (g := dy.1) (h := dy.2.1) (fun _ _ _ => rfl) (fun _ _ _ _ => rfl) 6 0 ps.1 ps.2.1 j).1
theorem put_p_2 (dy : XDy) (ps : XSh) (pl j : Nat) : (f_X3_put_p dy ps pl).2.1 j = if pl * 6 ≤ j ∧ j < pl * 6 + 6 then dy.2.1 (j - pl * 6) else ps.2.1 j := (put2 (F := L_X3_put_p_21 dy pl) (o := pl * 6) (g := dy.1) (h := dy.2.1) (fun _ _ _ => rfl) (fun _ _ _ _ => rfl) 6 0 ps.1 ps.2.1 j).2
theorem put_k_1 (dy : XDy) (ps : XSh) (pl j : Nat) : (f_X3_put_k dy ps pl).1 j = if pl * 6 ≤ j ∧ j < pl * 6 + 6 then dy.1 (j - pl * 6) else ps.1 j := (put2 (F := L_X3_put_k_21 dy pl) (o := pl * 6) (g := dy.1) (h := dy.2.1) (fun _ _ _ => rfl) (fun _ _ _ _ => rfl) 6 0 ps.1 ps.2.1 j).1
theorem put_k_2 (dy : XDy) (ps : XSh) (pl j : Nat) : (f_X3_put_k dy ps pl).2.1 j = if pl * 6 ≤ j ∧ j < pl * 6 + 6 then dy.2.1 (j - pl * 6) else ps.2.1 j := (put2 (F := L_X3_put_k_21 dy pl) (o := pl * 6) (g := dy.1) (h := dy.2.1) (fun _ _ _ => rfl) (fun _ _ _ _ => rfl) 6 0 ps.1 ps.2.1 j).2
theorem fet_p (dy : XDy) (ps : XSh) (pl : Nat) {j : Nat} (hj : j < 6) : (f_X3_fetch_p dy ps pl).1 j = ps.1 (pl * 6 + j) ∧ (f_X3_fetch_p dy ps pl).2.1 j = ps.2.1 (pl * 6 + j) := by
  have := put2 (F := L_X3_fetch_p_21 ps pl) (o := 0) (g := fun k => ps.1 (pl * 6 + k)) (h := fun k => ps.2.1 (pl * 6 + k)) (fun _ _ _ => rfl) (fun _ k _ _ => by rw [Nat.zero_add]; rfl) 6 0 dy.1 dy.2.1 j
  rw [if_pos (by omega), if_pos (by omega)] at this
  exact this
theorem fet_k (dy : XDy) (ps : XSh) (pl : Nat) {j : Nat} (hj : j < 6) : (f_X3_fetch_k dy ps pl).1 j = ps.1 (pl * 6 + j) ∧ (f_X3_fetch_k dy ps pl).2.1 j = ps.2.1 (pl * 6 + j) := by
  have := put2 (F := L_X3_fetch_k_21 ps pl) (o := 0) (g := fun k => ps.1 (pl * 6 + k)) (h := fun k => ps.2.1 (pl * 6 + k)) (fun _ _ _ => rfl) (fun _ k _ _ => by rw [Nat.zero_add]; rfl) 6 0 dy.1 dy.2.1 j
  rw [if_pos (by omega), if_pos (by omega)] at this
  exact this
theorem note_lt (st : Nat → Int32) {un : MUn} (h : ¬ un.2 = 8) (j : Nat) : (f_X8_note st un).1 j = (if 73 * un.2 ≤ j ∧ j < 73 * un.2 + 73 then st (j - 73 * un.2) else un.1 j) ∧ (f_X8_note st un).2 = un.2 + 1 := by
  unfold f_X8_note
  rw [if_neg h]
  exact ⟨fill1 (F := L_X8_note_51 st un) (o := 73 * un.2) (g := st) (fun _ _ => rfl) (fun _ _ _ => rfl) 73 0 un.1 j, rfl⟩
theorem note_8 (st : Nat → Int32) {un : MUn} (h : un.2 = 8) (j : Nat) : (f_X8_note st un).1 j = (if 511 ≤ j ∧ j < 584 then st (j - 511) else if j < 511 then un.1 (j + 73) else un.1 j) ∧ (f_X8_note st un).2 = 8 := by
  unfold f_X8_note
  rw [if_pos h]
  have e := fill1 (F := L_X8_note_51_b st un) (o := 73 * (un.2 - 1)) (g := st) (fun _ _ => rfl) (fun _ _ _ => rfl) 73 0 (L_X8_note_11 511 0 un.1) j
  rw [shift_val, h] at e
  change _ = if 511 ≤ j ∧ j < 511 + 73 then st (j - 511) else if 0 ≤ j ∧ j < 0 + 511 then un.1 (j + 73) else un.1 j at e
  refine ⟨?_, by show un.2 - 1 + 1 = 8; omega⟩
  show L_X8_note_51_b st un 73 0 (L_X8_note_11 511 0 un.1) j = _
  rw [e]
  by_cases c : 511 ≤ j ∧ j < 584
  · rw [if_pos (c := 511 ≤ j ∧ j < 584) c, if_pos (c := 511 ≤ j ∧ j < 511 + 73) (by omega)]
  · rw [if_neg (c := 511 ≤ j ∧ j < 584) c, if_neg (c := 511 ≤ j ∧ j < 511 + 73) (by omega)]
    by_cases c2 : j < 511
    · rw [if_pos (c := j < 511) c2, if_pos (c := 0 ≤ j ∧ j < 0 + 511) (by omega)]
    · rw [if_neg (c := j < 511) c2, if_neg (c := 0 ≤ j ∧ j < 0 + 511) (by omega)]
theorem record_note {P : Nat} {dy : XDy} {pn : Nat × Nat} {ps : XSh} {st : Nat → Int32} {un : MUn} (hD : dayX P dy st) (hU : undoR P pn ps un) : undoR P (f_X2_record dy pn ps).1 (f_X2_record dy pn ps).2 (f_X8_note st un) := by
  obtain ⟨a, m⟩ := pn
  obtain ⟨ha, hm, hu, hd⟩ := hU
  (try dsimp only at ha hm hu hd)
  unfold f_X2_record undoR
  (try dsimp only)
  by_cases h8 : m = 8
  · subst h8
    rw [if_pos (by omega)]
    refine ⟨by omega, by omega, (note_8 st hu 0).2, fun i hi => ?_⟩
    by_cases hl : i = 7
    · subst hl
      have ep : ((a + 1) % 8 + 8 - 8 + 7) % 8 = a := by omega
      rw [ep]
      refine dayR_cong (fun p hp => ?_) (fun p hp => ?_) (fun j hj => ?_) ?_ ?_ hD
      · rw [put_p_1, if_pos (by omega), Nat.add_sub_cancel_left]
      · rw [put_p_2, if_pos (by omega), Nat.add_sub_cancel_left]
      · rw [(note_8 st hu _).1, if_pos (by omega), show 73 * 7 + j - 511 = j by omega]
      · exact pk_us
      · exact pk_us
    · have ep : ((a + 1) % 8 + 8 - 8 + i) % 8 = (a + 8 - 8 + (i + 1)) % 8 := by omega
      have en : (a + 8 - 8 + (i + 1)) % 8 ≠ a := by omega
      rw [ep]
      refine dayR_cong (fun p hp => ?_) (fun p hp => ?_) (fun j hj => ?_) ?_ ?_ (hd (i + 1) (by omega))
      · rw [put_p_1, if_neg (by omega)]
      · rw [put_p_2, if_neg (by omega)]
      · rw [(note_8 st hu _).1, if_neg (by omega), if_pos (by omega), show 73 * i + j + 73 = 73 * (i + 1) + j by omega]
      · exact pk_un en
      · exact pk_un en
  · rw [if_neg (by omega)]
    have hu8 : ¬ un.2 = 8 := by omega
    refine ⟨by omega, by omega, by rw [(note_lt st hu8 0).2, hu], fun i hi => ?_⟩
    by_cases hl : i = m
    · subst hl
      have ep : ((a + 1) % 8 + 8 - (i + 1) + i) % 8 = a := by omega
      rw [ep]
      refine dayR_cong (fun p hp => ?_) (fun p hp => ?_) (fun j hj => ?_) ?_ ?_ hD
      · rw [put_p_1, if_pos (by omega), Nat.add_sub_cancel_left]
      · rw [put_p_2, if_pos (by omega), Nat.add_sub_cancel_left]
      · rw [(note_lt st hu8 _).1, hu, if_pos (by omega), Nat.add_sub_cancel_left]
      · exact pk_us
      · exact pk_us
    · have ep : ((a + 1) % 8 + 8 - (m + 1) + i) % 8 = (a + 8 - m + i) % 8 := by omega
      have en : (a + 8 - m + i) % 8 ≠ a := by omega
      rw [ep]
      refine dayR_cong (fun p hp => ?_) (fun p hp => ?_) (fun j hj => ?_) ?_ ?_ (hd i (by omega))
      · rw [put_p_1, if_neg (by omega)]
      · rw [put_p_2, if_neg (by omega)]
      · rw [(note_lt st hu8 _).1, hu, if_neg (by omega)]
      · exact pk_un en
      · exact pk_un en
theorem undo_ok {P : Nat} {dy : XDy} {pn : Nat × Nat} {ps : XSh} {st : Nat → Int32} {un : MUn} (hD : dayX P dy st) (hU : undoR P pn ps un) : (f_X7_undo dy pn ps).1 = (f_X8_undo st un).1 ∧ dayX P (f_X7_undo dy pn ps).2.1 (f_X8_undo st un).2.1 ∧ undoR P (f_X7_undo dy pn ps).2.2 ps (f_X8_undo st un).2.2 := by
  obtain ⟨a, m⟩ := pn
  have hU0 := hU
  obtain ⟨ha, hm, hu, hd⟩ := hU
  (try dsimp only at ha hm hu hd)
  unfold f_X7_undo f_X8_undo f_X2_takeBack
  (try dsimp only)
  rw [hu]
  by_cases h0 : m = 0
  · rw [if_pos h0, if_pos h0]
    (try dsimp only)
    rw [if_pos nI_0]
    exact ⟨rfl, hD, hU0⟩
  · rw [if_neg h0, if_neg h0]
    (try dsimp only)
    rw [if_neg (show ¬ nI 1 = 0 by decide)]
    refine ⟨rfl, ?_, ?_⟩
    · have h1 := hd (m - 1) (by omega)
      have ep : (a + 8 - m + (m - 1)) % 8 = (a + 8 - 1) % 8 := by omega
      rw [ep] at h1
      refine dayR_cong (fun p hp => (fet_p dy ps _ hp).1) (fun p hp => (fet_p dy ps _ hp).2) (fun j hj => ?_) rfl rfl h1
      rw [fill1 (F := L_X8_undo_22 un) (o := 0) (g := fun k => un.1 (73 * (un.2 - 1) + k)) (fun _ _ => rfl) (fun _ k _ => by rw [Nat.zero_add]; rfl) 73 0 st j, if_pos (by omega), hu]
      rfl
    · refine ⟨by (try dsimp only); omega, by (try dsimp only); omega, rfl, fun i hi => ?_⟩
      (try dsimp only at hi ⊢)
      have ep : ((a + 8 - 1) % 8 + 8 - (m - 1) + i) % 8 = (a + 8 - m + i) % 8 := by omega
      rw [ep]
      exact hd i (by omega)
theorem keep_ok {P : Nat} {dy : XDy} {ks : XSh} {kb : Int32} {st : Nat → Int32} {kp : MKp} (hD : dayX P dy st) (hK : keepR P ks kb kp) (kk : Int32) : (f_X7_keep dy ks kb kk).1 = (f_X8_keep st kp kk).1 ∧ keepR P (f_X7_keep dy ks kb kk).2.1 (f_X7_keep dy ks kb kk).2.2 (f_X8_keep st kp kk).2 := by
  unfold f_X7_keep f_X8_keep
  rw [within_in kk (nI 0) (nI 1) (lo := 0) (hi := 1) (by decide +kernel) (by decide +kernel)]
  by_cases h : f_X8_in kk.toInt64 (0 : Int64) (1 : Int64) = 0
  · rw [if_pos h, if_pos h]
    exact ⟨rfl, hK⟩
  · rw [if_neg h, if_neg h]
    obtain ⟨k, hk, e⟩ := in_ex (N := 2) (by decide +kernel) h
    subst e
    rw [nI_clamp (by omega)]
    refine ⟨(day_clk hD).1.symm, fun q hq => ?_⟩
    (try dsimp only)
    rw [bI_or, bI_one k (by omega) q (by omega)]
    by_cases e : q = k
    · subst e
      rw [pk_us]
      refine ⟨?_, fun _ => ?_⟩
      · rw [decide_eq_true rfl, Bool.or_true, if_pos rfl]
        decide +kernel
      · refine dayR_cong (fun p hp => ?_) (fun p hp => ?_) (fun j hj => ?_) pk_us pk_us hD
        · rw [put_k_1, if_pos (by omega), Nat.add_sub_cancel_left]
        · rw [put_k_2, if_pos (by omega), Nat.add_sub_cancel_left]
        · rw [fill1 (F := L_X8_keep_15 st (nI q)) (o := 73 * (nI q).toNatClampNeg) (g := st) (fun _ _ => rfl) (fun _ _ _ => rfl) 73 0 kp.2, nI_clamp (by omega), if_pos (by omega), Nat.add_sub_cancel_left]
    · rw [pk_un e, decide_eq_false e, Bool.or_false]
      refine ⟨(hK q hq).1, fun hb => ?_⟩
      refine dayR_cong (fun p hp => ?_) (fun p hp => ?_) (fun j hj => ?_) (pk_un e) (pk_un e) ((hK q hq).2 hb)
      · rw [put_k_1, if_neg (by omega)]
      · rw [put_k_2, if_neg (by omega)]
      · rw [fill1 (F := L_X8_keep_15 st (nI k)) (o := 73 * (nI k).toNatClampNeg) (g := st) (fun _ _ => rfl) (fun _ _ _ => rfl) 73 0 kp.2, nI_clamp (by omega), if_neg (by omega)]
theorem back_ok {P : Nat} {dy : XDy} {pn : Nat × Nat} {ps ks : XSh} {kb : Int32} {st : Nat → Int32} {un : MUn} {kp : MKp} (hD : dayX P dy st) (hU : undoR P pn ps un) (hK : keepR P ks kb kp) (kk : Int32) : (f_X7_back dy pn ks kb kk).1 = (f_X8_back st un kp kk).1 ∧ dayX P (f_X7_back dy pn ks kb kk).2.1 (f_X8_back st un kp kk).2.1 ∧ undoR P (f_X7_back dy pn ks kb kk).2.2 ps (f_X8_back st un kp kk).2.2 := by
  unfold f_X7_back f_X8_back
  rw [within_in kk (nI 0) (nI 1) (lo := 0) (hi := 1) (by decide +kernel) (by decide +kernel)]
  by_cases h : f_X8_in kk.toInt64 (0 : Int64) (1 : Int64) = 0
  · rw [if_pos h, if_pos h]
    exact ⟨rfl, hD, hU⟩
  · rw [if_neg h, if_neg h]
    obtain ⟨k, hk, e⟩ := in_ex (N := 2) (by decide +kernel) h
    subst e
    rw [nI_clamp (by omega)]
    have hb : kb &&& (nI 1 <<< (nI k &&& 31)) = 0 ↔ kp.1 k = 0 := by
      rw [rope_iff kb (by omega), (hK k hk).1]
      cases bI kb k
      · exact ⟨fun _ => nI_0, fun _ => rfl⟩
      · exact ⟨fun z => absurd z (by decide), fun z => absurd z (by decide)⟩
    by_cases hz : kp.1 k = 0
    · rw [if_pos hz, if_pos (hb.mpr hz)]
      exact ⟨rfl, hD, hU⟩
    · rw [if_neg hz, if_neg (fun z => hz (hb.mp z))]
      have hbt : bI kb k = true := Bool.not_eq_false _ |>.mp (fun z => hz (hb.mp ((rope_iff kb (by omega)).mpr z)))
      have hd := (hK k hk).2 hbt
      have hw : ∀ j, j < 73 → L_X8_back_27 kp (nI k) 73 0 st j = kp.2 (73 * k + j) := fun j hj => by
        rw [fill1 (F := L_X8_back_27 kp (nI k)) (o := 0) (g := fun i => kp.2 (73 * (nI k).toNatClampNeg + i)) (fun _ _ => rfl) (fun _ i _ => by rw [Nat.zero_add]; rfl) 73 0 st j, if_pos (by omega), nI_clamp (by omega)]
        rfl
      have hn : dayX P (f_X3_fetch_k dy ks k) (L_X8_back_27 kp (nI k) 73 0 st) := dayR_cong (fun p hp => (fet_k dy ks k hp).1) (fun p hp => (fet_k dy ks k hp).2) hw rfl rfl hd
      exact ⟨(day_clk hn).1.symm, hn, hU.1, Nat.zero_le _, rfl, fun i hi => absurd hi (Nat.not_lt_zero i)⟩
