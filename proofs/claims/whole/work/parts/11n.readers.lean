/-! second, as, together, free, reached, ropes -/
theorem in_ex {v : Int32} {h : Int64} {N : Nat} (hN : h.toInt < (N : Int)) (c : ¬ f_X8_in v.toInt64 (0 : Int64) h = 0) : ∃ s, s < N ∧ v = nI s := ⟨_, in_lt hN c, in_nat c⟩
theorem if_app {α β : Type} {c : Prop} [Decidable c] (F : α → β) (x y : α) : (if c then F x else F y) = F (if c then x else y) := by
  by_cases h : c
  · rw [if_pos h, if_pos h]
  · rw [if_neg h, if_neg h]
theorem orI_0 (x : Int32) : x ||| nI 0 = x := bI_ext (fun i _ => by rw [bI_or, nI_0, bI_0, Bool.or_false])
theorem orL_0 (x : Int64) : x ||| 0 = x := bL_ext (fun i _ => by rw [bL_or, bL_0, Bool.or_false])
theorem bit_iff (x : Int64) {s : Nat} (hs : s < 64) : lg_cmp (x &&& ((1 : Int64) <<< ((nI s).toInt64 &&& 63))) (0 : Int64) = 0 ↔ bL x s = false := by
  rw [lg_cmp_eq, bL_ne0]
  constructor
  · intro h
    have := h s hs
    rw [bL_and, bL_one s hs s hs] at this
    simpa using this
  · intro h i hi
    rw [bL_and, bL_one s hs i hi]
    by_cases e : i = s
    · rw [e, h, Bool.false_and]
    · simp [e]
theorem owner_none {dy : XDy} {s : Nat} (hs : s < 64) : ∀ (n k : Nat), (∀ p, k ≤ p → p < k + n → bL (dy.2.1 p) s = false) → L_X0_ownerOf_2 dy (nI s) n k = -1
  | 0, _, _ => rfl
  | n + 1, k, h => by
    rw [L_X0_ownerOf_2, if_pos ((bit_iff _ hs).mpr (h k (Nat.le_refl k) (by omega)))]
    exact owner_none hs n (k + 1) (fun p h1 h2 => h p (by omega) (by omega))
theorem owner_some {dy : XDy} {s q : Nat} (hs : s < 64) (h : ∀ p, p < 6 → bL (dy.2.1 p) s = decide (p = q)) : ∀ (n k : Nat), k ≤ q → q < k + n → k + n ≤ 6 → L_X0_ownerOf_2 dy (nI s) n k = nI q
  | 0, k, h1, h2, _ => by omega
  | n + 1, k, h1, h2, h6 => by
    rw [L_X0_ownerOf_2]
    by_cases e : k = q
    · subst e
      rw [if_neg (fun z => by rw [bit_iff _ hs, h k (by omega)] at z; simp at z)]
    · rw [if_pos ((bit_iff _ hs).mpr (by rw [h k (by omega)]; simp [e]))]
      exact owner_some hs h n (k + 1) (by omega) (by omega) (by omega)
theorem owner_eq {P : Nat} {dy : XDy} {st : Nat → Int32} (h6 : P ≤ 6) (ho : ownR P dy.2.1 st) {s : Nat} (hs : s < 60) : f_X0_ownerOf dy (nI s) = st s := by
  unfold f_X0_ownerOf
  rcases ho.1 s hs with ⟨h1, h2⟩ | ⟨q, hq, h1, h2⟩
  · rw [owner_none (by omega) 6 0 (fun p _ h => h2 p (by omega)), h1]
  · rw [owner_some (q := q) (by omega) h2 6 0 (by omega) (by omega) (by omega), h1]
theorem who_eq {td : XTd} {to : Nat → Int32} {dy : XDy} {st : Nat → Int32} (hT : toldR td to) (hD : dayR (pN td) dy.1 dy.2.1 dy.2.2.1 dy.2.2.2 st) {s : Nat} (hs : s < 60) : f_X7_whoStandIn td dy (nI s) = L_X8_second_32 to st (nI s) (mN to) 0 (nI 0) := by
  obtain ⟨_, hm, h6⟩ := told_m hT
  rw [hm]
  unfold f_X7_whoStandIn
  refine loop_cong (F := L_X7_whoStandIn_4 td dy (nI s)) (G := L_X8_second_32 to st (nI s)) (f := fun k x => if lg_cmp ((f_X7_standsNow td dy (nI k)) &&& ((1 : Int64) <<< ((nI s).toInt64 &&& 63))) (0 : Int64) = 0 then x else x ||| (nI 1 <<< (nI k &&& 31))) (g := fun k x => x ||| (if f_X8_standsIn to st k (nI (nI s).toNatClampNeg) = 0 then nI 0 else nI 1 <<< (nI k &&& 31))) (fun _ _ => rfl) (fun n k x => if_app (L_X7_whoStandIn_4 td dy (nI s) n (k + 1)) x (x ||| (nI 1 <<< (nI k &&& 31)))) (fun _ _ => rfl) (fun _ _ _ => rfl) _ _ _ (fun j y _ h2 => ?_)
  have hj : j < pN td := by
    have : j < 0 + pN td := h2
    omega
  have e : lg_cmp ((f_X7_standsNow td dy (nI j)) &&& ((1 : Int64) <<< ((nI s).toInt64 &&& 63))) (0 : Int64) = 0 ↔ f_X8_standsIn to st j (nI (nI s).toNatClampNeg) = 0 := by
    rw [bit_iff _ (by omega), standsNow_bit hT hD hj (by omega), decide_eq_true hs, Bool.true_and, nI_clamp (by omega), SI_z]
  by_cases h : f_X8_standsIn to st j (nI (nI s).toNatClampNeg) = 0
  · rw [if_pos h, if_pos (e.mpr h), orI_0]
  · rw [if_neg h, if_neg (fun q => h (e.mp q))]
theorem second_eq {td : XTd} {to : Nat → Int32} {dy : XDy} {st : Nat → Int32} (hT : toldR td to) (hD : dayR (pN td) dy.1 dy.2.1 dy.2.2.1 dy.2.2.2 st) (sec wh : Int32) : f_X7_second td dy sec wh = f_X8_second to st sec wh := by
  have h6 : pN td ≤ 6 := hT.1
  unfold f_X7_second f_X8_second
  rw [within_in sec (nI 0) (nI 59) (lo := 0) (hi := 59) (by decide +kernel) (by decide +kernel)]
  by_cases h : f_X8_in sec.toInt64 (0 : Int64) (59 : Int64) = 0
  · rw [if_pos h, if_pos h]
  · rw [if_neg h, if_neg h]
    obtain ⟨s, hs, e⟩ := in_ex (N := 60) (by decide +kernel) h
    subst e
    rw [who_eq hT hD hs, owner_eq h6 hD.1 hs, nI_clamp (by omega)]
    by_cases h0 : wh = nI 0
    · subst h0
      rw [if_pos rfl, if_neg (show ¬ f_X8_in (nI 0).toInt64 (0 : Int64) (2 : Int64) = 0 by decide +kernel), if_pos nI_0]
    · rw [if_neg h0, if_neg (show ¬ wh = 0 by rw [← nI_0]; exact h0)]
      by_cases h1 : wh = nI 1
      · subst h1
        rw [if_pos rfl, if_neg (show ¬ f_X8_in (nI 1).toInt64 (0 : Int64) (2 : Int64) = 0 by decide +kernel), if_pos rfl, hT.2.2.2.2.1 s hs]
        by_cases e : bL td.2.2.2.2.2.2 s = true
        · rw [if_pos e, if_neg (fun z => by rw [(bit_iff _ (by omega)).mp z] at e; exact absurd e (by decide))]
        · rw [if_neg e, if_pos ((bit_iff _ (by omega)).mpr (Bool.not_eq_true _ |>.mp e))]
      · rw [if_neg h1, if_neg h1]
        by_cases h2 : wh = nI 2
        · subst h2
          rw [if_pos rfl, if_neg (show ¬ f_X8_in (nI 2).toInt64 (0 : Int64) (2 : Int64) = 0 by decide +kernel)]
        · rw [if_neg h2]
          by_cases h3 : f_X8_in wh.toInt64 (0 : Int64) (2 : Int64) = 0
          · rw [if_pos h3]
          · obtain ⟨w, hw, e⟩ := in_ex (N := 3) (by decide +kernel) h3
            subst e
            have : w = 0 ∨ w = 1 ∨ w = 2 := by omega
            rcases this with rfl | rfl | rfl
            · exact absurd rfl h0
            · exact absurd rfl h1
            · exact absurd rfl h2
theorem under_all : ∀ k, k < 4 → ∀ j, j < 5 → (f_X7_isUnder (nI k + nI 1) (nI j) = 0 ↔ (if nI j = 0 then nI 1 else (if nI j = nI 1 then (if nI k < nI 3 then nI 1 else (if nI j ≤ nI 1 then nI 0 else (if nI k = (nI j - nI 1) then nI 1 else nI 0))) else (if nI j ≤ nI 1 then nI 0 else (if nI k = (nI j - nI 1) then nI 1 else nI 0)))) = 0) := by decide +kernel
theorem as_eq {td : XTd} {to : Nat → Int32} (hT : toldR td to) (pe ki : Int32) : f_X7_as td pe ki = f_X8_as to pe ki := by
  have h6 : pN td ≤ 6 := hT.1
  unfold f_X7_as f_X8_as
  by_cases h : f_X6_knows td pe = 0
  · rw [if_pos h, if_pos ((knows_person hT pe).mp h)]
  · rw [if_neg h, if_neg (fun q => h ((knows_person hT pe).mpr q)), within_in ki (nI 0) (nI 5 - nI 1) (lo := 0) (hi := 4) (by decide +kernel) (by decide +kernel)]
    by_cases h2 : f_X8_in ki.toInt64 (0 : Int64) (4 : Int64) = 0
    · rw [if_pos h2, if_pos h2]
    · rw [if_neg h2, if_neg h2]
      obtain ⟨j, hj, e⟩ := in_ex (N := 5) (by decide +kernel) h2
      subst e
      obtain ⟨p, hp, e⟩ := (knows_iff h6 pe).mp h
      have hp : p < pN td := hp
      subst e
      obtain ⟨k, hk, e⟩ := (hT.2.2.1 p hp).2.1
      have ek : to (1 + p) = nI k := (hT.2.2.1 p hp).1.1.trans e
      rw [nI_clamp (by omega), told_kind hT hp, ek, (told_walk hT hp).1, (told_walk hT hp).2.1, (told_toll hT hp).1, (told_toll hT hp).2.1, Int32.add_comm (nI (wkN to p))]
      have := under_all k (by omega) j hj
      by_cases h3 : f_X7_isUnder (nI k + nI 1) (nI j) = 0
      · rw [if_pos h3, if_pos (this.mp h3)]
      · rw [if_neg h3, if_neg (fun q => h3 (this.mpr q))]
theorem two_iff {td : XTd} {to : Nat → Int32} (hT : toldR td to) (pe ot : Int32) {α : Type} (x y : α) : (if f_X7_areTwo td pe ot = 0 then x else y) = (if f_X8_isPerson to pe = 0 then x else (if f_X8_isPerson to ot = 0 then x else (if pe = ot then x else y))) := by
  unfold f_X7_areTwo
  by_cases h1 : f_X6_knows td pe = 0
  · rw [if_pos h1, if_pos nI_0, if_pos ((knows_person hT pe).mp h1)]
  · rw [if_neg h1, if_neg (c := f_X8_isPerson to pe = 0) (fun q => h1 ((knows_person hT pe).mpr q))]
    by_cases h2 : f_X6_knows td ot = 0
    · rw [if_pos h2, if_pos nI_0, if_pos ((knows_person hT ot).mp h2)]
    · rw [if_neg h2, if_neg (c := f_X8_isPerson to ot = 0) (fun q => h2 ((knows_person hT ot).mpr q))]
      by_cases h3 : pe = ot
      · rw [if_pos h3, if_pos nI_0, if_pos h3]
      · rw [if_neg h3, if_neg (show ¬ nI 1 = 0 by decide), if_neg h3]
theorem together_eq {td : XTd} {to : Nat → Int32} {dy : XDy} {st : Nat → Int32} (hT : toldR td to) (hD : dayR (pN td) dy.1 dy.2.1 dy.2.2.1 dy.2.2.2 st) (pe ot : Int32) : f_X7_together td dy pe ot = f_X8_together to st pe ot := by
  have h6 : pN td ≤ 6 := hT.1
  unfold f_X7_together f_X8_together
  rw [two_iff hT]
  by_cases h1 : f_X8_isPerson to pe = 0
  · rw [if_pos h1, if_pos h1]
  · by_cases h2 : f_X8_isPerson to ot = 0
    · rw [if_neg h1, if_neg h1, if_pos h2, if_pos h2]
    · rw [if_neg h1, if_neg h1, if_neg h2, if_neg h2]
      obtain ⟨p, hp, e⟩ := (knows_iff h6 pe).mp (fun q => h1 ((knows_person hT pe).mp q))
      obtain ⟨q, hq, e2⟩ := (knows_iff h6 ot).mp (fun q => h2 ((knows_person hT ot).mp q))
      have hp : p < pN td := hp
      have hq : q < pN td := hq
      subst e
      subst e2
      have key : f_J13_bitCount_95d88 ((f_X7_standsNow td dy (nI p)) &&& (f_X7_standsNow td dy (nI q))) = L_X8_together_29 to st (nI p) (nI q) 60 0 (nI 0) := by
        rw [bitCount_eq, ct_cut (m := 60) (by decide) (fun k h1 h2 => by rw [bL_and, standsNow_bit hT hD hp h2, decide_eq_false (by omega)]; rfl)]
        rw [fb_ct_cong (q := fun i => SI to st p i && SI to st q i) (fun i hi => by rw [bL_and, standsNow_bit hT hD hp (by omega), standsNow_bit hT hD hq (by omega), decide_eq_true hi, Bool.true_and, Bool.true_and]), ct_sm]
        symm
        refine sumL0 (F := L_X8_together_29 to st (nI p) (nI q)) (g := fun i => if f_X8_standsIn to st (nI p).toNatClampNeg (nI i) = 0 then nI 0 else (if f_X8_standsIn to st (nI q).toNatClampNeg (nI i) = 0 then nI 0 else nI 1)) _ (fun _ _ => rfl) (fun _ _ _ => rfl) 60 (fun i _ => ?_)
        rw [nI_clamp (by omega), nI_clamp (by omega)]
        by_cases h : f_X8_standsIn to st p (nI i) = 0
        · rw [if_pos h, SI_z.mp h]
          rfl
        · rw [if_neg h, Bool.not_eq_false _ |>.mp (fun e => h (SI_z.mpr e)), Bool.true_and]
          by_cases h' : f_X8_standsIn to st q (nI i) = 0
          · rw [if_pos h', SI_z.mp h']
            rfl
          · rw [if_neg h', Bool.not_eq_false _ |>.mp (fun e => h' (SI_z.mpr e))]
            rfl
      rw [key]
