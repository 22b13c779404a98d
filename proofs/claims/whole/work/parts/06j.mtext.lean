def L_X8_readText_12 (to : (Nat → Int32)) : Nat → Nat → (Nat → Int32) → (Nat → Int32)
  | 0, _, wrd0_12 => wrd0_12
  | n_12 + 1, k_12, wrd0_12 => (L_X8_readText_12 to n_12 (k_12 + 1) (upd wrd0_12 k_12 (to k_12)))
def L_X8_readText_37  : Nat → MTx → ((Nat → Int32)) → Int32 × MTx × (Nat → Int32)
  | 0, gmt_37, grd_37 => (nI 0, gmt_37, grd_37)
  | n_37 + 1, gmt_37, grd_37 => (if (f_X8_readClause (f_X8_nextToken gmt_37) grd_37).1 = 0 then (nI 0, (f_X8_readClause (f_X8_nextToken gmt_37) grd_37).2.1, (f_X8_readClause (f_X8_nextToken gmt_37) grd_37).2.2) else (if (f_X8_nextToken (mtInc (f_X8_readClause (f_X8_nextToken gmt_37) grd_37).2.1)).2.2.2.1 = nI 3 then (nI 1, (f_X8_nextToken (mtInc (f_X8_readClause (f_X8_nextToken gmt_37) grd_37).2.1)), (f_X8_readClause (f_X8_nextToken gmt_37) grd_37).2.2) else (if (f_X8_nextToken (mtInc (f_X8_readClause (f_X8_nextToken gmt_37) grd_37).2.1)).2.2.2.1 = 0 then (if (f_X8_nextToken (mtInc (f_X8_readClause (f_X8_nextToken gmt_37) grd_37).2.1)).2.2.2.2.1 = nI 59 then (if (f_X8_nextToken (mtInc (f_X8_readClause (f_X8_nextToken gmt_37) grd_37).2.1)).2.2.2.2.2.2 = 14 then (nI 0, (f_X8_nextToken (mtInc (f_X8_readClause (f_X8_nextToken gmt_37) grd_37).2.1)), (f_X8_readClause (f_X8_nextToken gmt_37) grd_37).2.2) else (L_X8_readText_37 n_37 (f_X8_nextToken (mtInc (f_X8_readClause (f_X8_nextToken gmt_37) grd_37).2.1)) (f_X8_readClause (f_X8_nextToken gmt_37) grd_37).2.2)) else (nI 0, (f_X8_nextToken (mtInc (f_X8_readClause (f_X8_nextToken gmt_37) grd_37).2.1)), (f_X8_readClause (f_X8_nextToken gmt_37) grd_37).2.2)) else (nI 0, (f_X8_nextToken (mtInc (f_X8_readClause (f_X8_nextToken gmt_37) grd_37).2.1)), (f_X8_readClause (f_X8_nextToken gmt_37) grd_37).2.2))))
def f_X8_readText (to : (Nat → Int32)) (mt : MTx) (rd : (Nat → Int32)) : Int32 × MTx × (Nat → Int32) := (L_X8_readText_37 14 (mt.1, mt.2.1, 0, mt.2.2.2.1, mt.2.2.2.2.1, mt.2.2.2.2.2.1, 0) (L_X8_readText_12 to 145 0 rd))
theorem cp_0 (to : Nat → Int32) : ∀ (n k : Nat) (w : Nat → Int32), (∀ j, j < k → w j = to j) → ∀ j, j < k + n → L_X8_readText_12 to n k w j = to j
  | 0, _, _, h, j, hj => h j hj
  | n + 1, k, w, h, j, hj => by
    rw [L_X8_readText_12]
    refine cp_0 to n (k + 1) _ (fun i hi => ?_) j (by omega)
    by_cases e : i = k
    · subst e; exact pk_us
    · rw [pk_un e]; exact h i (by omega)
theorem cp_rd {to rd : Nat → Int32} (hm : to 0 = nI (mN to)) (hm6 : mN to ≤ 6) : rdOk (L_X8_readText_12 to 145 0 rd) := by
  have h := cp_0 to 145 0 rd (fun j hj => absurd hj (Nat.not_lt_zero j)) 0 (by decide)
  unfold rdOk mN
  rw [h]
  exact ⟨hm, hm6⟩
theorem rt_b : ∀ (n : Nat) (g : MTx) (r : Nat → Int32), (L_X8_readText_37 n g r).1 = nI 0 ∨ (L_X8_readText_37 n g r).1 = nI 1
  | 0, _, _ => Or.inl rfl
  | n + 1, g, r => by
    rw [L_X8_readText_37]
    split
    · exact Or.inl rfl
    · split
      · exact Or.inr rfl
      · split
        · split
          · split
            · exact Or.inl rfl
            · exact rt_b n _ _
          · exact Or.inl rfl
        · exact Or.inl rfl
theorem f_X8_readText_b (to : (Nat → Int32)) (mt : MTx) (rd : (Nat → Int32)) : (f_X8_readText to mt rd).1 = nI 0 ∨ (f_X8_readText to mt rd).1 = nI 1 := by
  unfold f_X8_readText
  exact rt_b _ _ _
abbrev rm_X8_readText : Room := { frames := 5, cells := 0, slots := 0, locals := 114 }
set_option maxHeartbeats 4000000 in
set_option maxRecDepth 100000 in
theorem c_X8_readText (l : Launch) (D : va_G) (cI cL cZ : ClassId) (ad : Nat → Nat) (A : Nat → Prop) (to : (Nat → Int32)) (st : (Nat → Int32)) (mt : MTx) (rd : (Nat → Int32)) (un : MUn) (kp : MKp) (rw : MKp) (se : MUn)  (hl0 : mt.2.1 ≤ 160) (hb0 : mt.2.2.2.2.2.1 ≤ 160) (hm : to 0 = nI (mN to)) (hm6 : mN to ≤ 6) : Met l yX8_readText wsX8_readText rm_X8_readText (va_Pc [.ref (ad 0)] (sR D cI cL cZ A (mW cI cL cZ ad to st mt rd un kp rw se))) (va_Qi (fun (r : Int32) (u : MTx × (Nat → Int32)) => r = (f_X8_readText to mt rd).1 ∧ u = (f_X8_readText to mt rd).2) (fun (u : MTx × (Nat → Int32)) t => va_P D vwCl (mW cI cL cZ ad to st u.1 u.2 un kp rw se) t.heap) A) 0 0 A := by
  refine Met.ofW (cc := cX8_readText) (maxL := 2) (ret := (some .boolean)) (by decide) rfl ?_
  intro p e s m args below meth c s₁ B hml hv
  obtain ⟨rfl, hP, hK, hD, hE⟩ := hv
  have hx := B.exec
  have hb := B.bytes
  have hr := B.returns
  have hts := atoms_spec (ws := wsX8_readText) B.pre
  have hown : s.vm.findClass RX8 = some m.cls := findClass_of_methodNamed B.named
  have hlocks := B.notSynchronized
  have hS : va_S A s.heap s.heap [] := va_S.rf
  have hl := lv_entry ([.ref (ad 0)]) (n := 2) (Nat.le_of_ble_eq_true rfl)
  rw [lg_entry_eq]
  generalize (lg_sl ([.ref (ad 0)]) ++ List.replicate (2 - (lg_sl ([.ref (ad 0)])).length) Slot.unset).toArray = ls at hl ⊢
  have hl : lv_has ls 2 [(0, .ref (ad 0))] := hl
  obtain ⟨Q, hQe⟩ : ∃ Q, Q = MQ below (va_Qi (fun (r : Int32) (u : MTx × (Nat → Int32)) => r = (f_X8_readText to mt rd).1 ∧ u = (f_X8_readText to mt rd).2) (fun (u : MTx × (Nat → Int32)) t => va_P D vwCl (mW cI cL cZ ad to st u.1 u.2 un kp rw se) t.heap) A) ([.ref (ad 0)] : List Value).toArray s 0 0 A := ⟨_, rfl⟩
  show W p l e (headSpec wsX8_readText rm_X8_readText).room s m ([.ref (ad 0)] : List Value).toArray below meth c s.heap [] 0 0 (MQ below (va_Qi (fun (r : Int32) (u : MTx × (Nat → Int32)) => r = (f_X8_readText to mt rd).1 ∧ u = (f_X8_readText to mt rd).2) (fun (u : MTx × (Nat → Int32)) t => va_P D vwCl (mW cI cL cZ ad to st u.1 u.2 un kp rw se) t.heap) A) ([.ref (ad 0)] : List Value).toArray s 0 0 A) (F0 m 0 ls [])
  rw [← hQe]
  obtain ⟨RES, hRES⟩ : ∃ z, z = (f_X8_readText to mt rd) := ⟨_, rfl⟩
  refine lv_aload_n hx hb dX8_readText_0 rfl (lv_at hl 0 rfl) ?_
  refine lv_iconst (v := nI 0) hx hb dX8_readText_1 rfl ?_
  refine va_put (D := D) (ci := 8) (v := .int (nI 0)) (ty := .int) (C := RX8) (T := TX8) (N := 18) hx hb hts (by decide +kernel) tyX8 tyX8_ok nmX8 hown hK hP hD hS 0 rfl rfl 4 (by decide) (hts (.fieldLink RX8 54 "SummitTimeModel" "place" "I") (by decide +kernel)) (fun _ h9 => h9) rfl (by decide +kernel) rfl rfl (Nat.le_of_ble_eq_true rfl) dX8_readText_2 (fun H locs hP hD hS => ?_)
  have hP : va_P D vwCl (mW cI cL cZ ad to st (mt.1, mt.2.1, 0, mt.2.2.2.1, mt.2.2.2.2.1, mt.2.2.2.2.2.1, mt.2.2.2.2.2.2) rd un kp rw se) H := hP
  have hD : va_D A (mW cI cL cZ ad to st (mt.1, mt.2.1, 0, mt.2.2.2.1, mt.2.2.2.2.1, mt.2.2.2.2.2.1, mt.2.2.2.2.2.2) rd un kp rw se) := hD
  refine lv_aload_n hx hb dX8_readText_5 rfl (lv_at hl 0 rfl) ?_
  refine lv_iconst (v := nI 0) hx hb dX8_readText_6 rfl ?_
  refine va_put (D := D) (ci := 8) (v := .int (nI 0)) (ty := .int) (C := RX8) (T := TX8) (N := 18) hx hb hts (by decide +kernel) tyX8 tyX8_ok nmX8 hown hK hP hD hS 0 rfl rfl 9 (by decide) (hts (.fieldLink RX8 111 "SummitTimeModel" "clauses" "I") (by decide +kernel)) (fun _ h9 => h9) rfl (by decide +kernel) rfl rfl (Nat.le_of_ble_eq_true rfl) dX8_readText_7 (fun H locs hP hD hS => ?_)
  have hP : va_P D vwCl (mW cI cL cZ ad to st (mt.1, mt.2.1, 0, mt.2.2.2.1, mt.2.2.2.2.1, mt.2.2.2.2.2.1, 0) rd un kp rw se) H := hP
  have hD : va_D A (mW cI cL cZ ad to st (mt.1, mt.2.1, 0, mt.2.2.2.1, mt.2.2.2.2.1, mt.2.2.2.2.2.1, 0) rd un kp rw se) := hD
  refine lv_iconst (v := nI 0) hx hb dX8_readText_10 rfl ?_
  refine lv_istore_n (lv' := [(1, .int (nI 0)), (0, .ref (ad 0))]) hx hb dX8_readText_11 rfl hl (by decide) rfl (fun ls hl => ?_)
  obtain ⟨T_12_1, hT_12_1⟩ : ∃ z, z = (L_X8_readText_12 to 145 0 rd) := ⟨_, rfl⟩
  have hexit_12 : ∀ (H : Heap) (locs : List Loc) (ls : Array Slot), va_P D vwCl (mW cI cL cZ ad to st (mt.1, mt.2.1, 0, mt.2.2.2.1, mt.2.2.2.2.1, mt.2.2.2.2.2.1, 0) T_12_1 un kp rw se) H → va_S A s.heap H locs → lv_has ls 2 [(0, .ref (ad 0))] → W p l e (headSpec wsX8_readText rm_X8_readText).room s m ([.ref (ad 0)] : List Value).toArray below meth c H locs 0 0 Q (F0 m 37 ls []) := by
    intro H locs ls hP hS hl
    have hD : va_D A (mW cI cL cZ ad to st (mt.1, mt.2.1, 0, mt.2.2.2.1, mt.2.2.2.2.1, mt.2.2.2.2.2.1, 0) T_12_1 un kp rw se) := mW_D hD
    have loop_37 : ∀ (n_37 : Nat) (gmt_37 : MTx) (grd_37 : (Nat → Int32)), (mtOk gmt_37) → (rdOk grd_37) → (gmt_37.2.2.2.2.2.2 + n_37 = 14) → (1 ≤ n_37) → L_X8_readText_37 n_37 gmt_37 grd_37 = RES → ∀ (H : Heap) (locs : List Loc) (ls : Array Slot), va_P D vwCl (mW cI cL cZ ad to st gmt_37 grd_37 un kp rw se) H → va_S A s.heap H locs → lv_has ls 2 [(0, .ref (ad 0))] → W p l e (headSpec wsX8_readText rm_X8_readText).room s m ([.ref (ad 0)] : List Value).toArray below meth c H locs 0 0 Q (F0 m 37 ls []) := by
      intro n_37
      induction n_37 with
      | zero =>
        intro gmt_37 grd_37 im ir ic ic1 hL_37 H locs ls hP hS hl
        have hD : va_D A (mW cI cL cZ ad to st gmt_37 grd_37 un kp rw se) := mW_D hD
        exact absurd ic1 (by decide)
      | succ n_37 ih_37 =>
        intro gmt_37 grd_37 im ir ic ic1 hL_37 H locs ls hP hS hl
        have hD : va_D A (mW cI cL cZ ad to st gmt_37 grd_37 un kp rw se) := mW_D hD
        refine lv_aload_n hx hb dX8_readText_37 rfl (lv_at hl 0 rfl) ?_
        refine va_callv (va_runV (As := []) (rest := []) ⟨hx, hb, hml, hown, hts⟩ (c_X8_nextToken l D cI cL cZ ad A to st gmt_37 grd_37 un kp rw se  im) (cwV 0 hts gX8_readText_X8_nextToken rfl rfl rfl (by decide +kernel) ⟨Nat.le_of_ble_eq_true rfl, Nat.le_of_ble_eq_true rfl⟩) ⟨sR_fb, va_recv hK hP (ci := 8) (q0 := 0) rfl rfl, sR_at hP hK hD hE⟩ rfl rfl hl.1 rfl (lv_room (Nat.le_of_ble_eq_true rfl)) dX8_readText_38 ⟨Nat.zero_le _, Nat.zero_le _⟩) hS (fun q _ h => h) (fun q h => h) (fun T_38_9 t H locs ht hvm hT_38_9 hB hz1 hk1 hS => ?_)
        rw [ht] at hB
        have hP : va_P D vwCl (mW cI cL cZ ad to st T_38_9 grd_37 un kp rw se) H := hB
        have hD : va_D A (mW cI cL cZ ad to st T_38_9 grd_37 un kp rw se) := mW_D hD
        refine lv_aload_n hx hb dX8_readText_41 rfl (lv_at hl 0 rfl) ?_
        refine va_calli (va_runV (As := []) (rest := []) ⟨hx, hb, hml, hown, hts⟩ (c_X8_readClause l D cI cL cZ ad A to st T_38_9 grd_37 un kp rw se  (rt1 hT_38_9 im).1 ir) (cwV 0 hts gX8_readText_X8_readClause rfl rfl rfl (by decide +kernel) ⟨Nat.le_of_ble_eq_true rfl, Nat.le_of_ble_eq_true rfl⟩) ⟨sR_fb, va_recv hK hP (ci := 8) (q0 := 0) rfl rfl, sR_at hP hK hD hE⟩ rfl rfl hl.1 rfl (lv_room (Nat.le_of_ble_eq_true rfl)) dX8_readText_42 ⟨Nat.zero_le _, Nat.zero_le _⟩) hS (fun q _ h => h) (fun q h => h) (fun T_429999_10 T_42_10 t H locs ht hvm hw hB hz1 hk1 hS => ?_)
        obtain ⟨hT_429999_10, hT_42_10⟩ := hw
        rw [ht] at hB
        have hP : va_P D vwCl (mW cI cL cZ ad to st T_42_10.1 T_42_10.2 un kp rw se) H := hB
        have hD : va_D A (mW cI cL cZ ad to st T_42_10.1 T_42_10.2 un kp rw se) := mW_D hD
        refine lv_if_ne (tgt := 50) hx hb dX8_readText_45 (by decide) (fun c_3 => ?_) (fun c_3 => ?_)
        · refine lv_aload_n hx hb dX8_readText_50 rfl (lv_at hl 0 rfl) ?_
          refine lv_dup hx hb dX8_readText_51 rfl ?_
          refine va_get (D := D) (ci := 8) (v := .int (nI T_42_10.1.2.2.2.2.2.2)) (C := RX8) (T := TX8) (N := 18) hx hb hts (by decide +kernel) hown hK hP 0 rfl rfl 9 (by decide) (hts (.fieldLink RX8 111 "SummitTimeModel" "clauses" "I") (by decide +kernel)) (fun _ h9 => h9) rfl dX8_readText_52 ?_
          refine lv_iconst (v := nI 1) hx hb dX8_readText_55 rfl ?_
          refine mv_iadd hx hb dX8_readText_56 ?_
          refine va_put (D := D) (ci := 8) (v := .int (nI (T_42_10.1.2.2.2.2.2.2 + 1))) (ty := .int) (C := RX8) (T := TX8) (N := 18) hx hb hts (by decide +kernel) tyX8 tyX8_ok nmX8 hown hK hP hD hS 0 rfl rfl 9 (by decide) (hts (.fieldLink RX8 111 "SummitTimeModel" "clauses" "I") (by decide +kernel)) (fun _ h9 => h9) rfl (by decide +kernel) rfl rfl (Nat.le_of_ble_eq_true rfl) dX8_readText_57 (fun H locs hP hD hS => ?_)
          have hP : va_P D vwCl (mW cI cL cZ ad to st (mtInc T_42_10.1) T_42_10.2 un kp rw se) H := hP
          have hD : va_D A (mW cI cL cZ ad to st (mtInc T_42_10.1) T_42_10.2 un kp rw se) := hD
          refine lv_aload_n hx hb dX8_readText_60 rfl (lv_at hl 0 rfl) ?_
          refine va_callv (va_runV (As := []) (rest := []) ⟨hx, hb, hml, hown, hts⟩ (c_X8_nextToken l D cI cL cZ ad A to st (mtInc T_42_10.1) T_42_10.2 un kp rw se  (rt2 hT_42_10 (rt1 hT_38_9 im).1 ir).1) (cwV 0 hts gX8_readText_X8_nextToken rfl rfl rfl (by decide +kernel) ⟨Nat.le_of_ble_eq_true rfl, Nat.le_of_ble_eq_true rfl⟩) ⟨sR_fb, va_recv hK hP (ci := 8) (q0 := 0) rfl rfl, sR_at hP hK hD hE⟩ rfl rfl hl.1 rfl (lv_room (Nat.le_of_ble_eq_true rfl)) dX8_readText_61 ⟨Nat.zero_le _, Nat.zero_le _⟩) hS (fun q _ h => h) (fun q h => h) (fun T_61_11 t H locs ht hvm hT_61_11 hB hz1 hk1 hS => ?_)
          rw [ht] at hB
          have hP : va_P D vwCl (mW cI cL cZ ad to st T_61_11 T_42_10.2 un kp rw se) H := hB
          have hD : va_D A (mW cI cL cZ ad to st T_61_11 T_42_10.2 un kp rw se) := mW_D hD
          refine lv_aload_n hx hb dX8_readText_64 rfl (lv_at hl 0 rfl) ?_
          refine va_get (D := D) (ci := 8) (v := .int T_61_11.2.2.2.1) (C := RX8) (T := TX8) (N := 18) hx hb hts (by decide +kernel) hown hK hP 0 rfl rfl 5 (by decide) (hts (.fieldLink RX8 67 "SummitTimeModel" "token" "I") (by decide +kernel)) (fun _ h9 => h9) rfl dX8_readText_65 ?_
          refine lv_iconst (v := nI 3) hx hb dX8_readText_68 rfl ?_
          refine lv_icmp_ne (tgt := 74) hx hb dX8_readText_69 (by decide) (fun c_4 => ?_) (fun c_4 => ?_)
          · refine lv_aload_n hx hb dX8_readText_74 rfl (lv_at hl 0 rfl) ?_
            refine va_get (D := D) (ci := 8) (v := .int T_61_11.2.2.2.1) (C := RX8) (T := TX8) (N := 18) hx hb hts (by decide +kernel) hown hK hP 0 rfl rfl 5 (by decide) (hts (.fieldLink RX8 67 "SummitTimeModel" "token" "I") (by decide +kernel)) (fun _ h9 => h9) rfl dX8_readText_75 ?_
            refine lv_if_ne (tgt := 99) hx hb dX8_readText_78 (by decide) (fun c_5 => ?_) (fun c_5 => ?_)
            · refine lv_iconst (v := nI 0) hx hb dX8_readText_99 rfl ?_
              subst hQe
              have hf : (f_X8_readText to mt rd) = (nI 0, T_61_11, T_42_10.2) := by subst hT_61_11; subst hT_42_10; subst hT_429999_10; subst hT_38_9; subst hT_12_1; rw [← hRES, ← hL_37, L_X8_readText_37, if_neg c_3, if_neg c_4, if_neg c_5]
              exact W.zret (v := nI 0) (ty := .boolean) hx hb hr rfl (fun t ht hW => ⟨⟨nI 0, (T_61_11, T_42_10.2), rfl, ⟨(congrArg Prod.fst hf).symm, (congrArg Prod.snd hf).symm⟩, va_Pt ht hP⟩, hS.F ht⟩) hS.2.2 dX8_readText_100
            · refine lv_aload_n hx hb dX8_readText_81 rfl (lv_at hl 0 rfl) ?_
              refine va_get (D := D) (ci := 8) (v := .int T_61_11.2.2.2.2.1) (C := RX8) (T := TX8) (N := 18) hx hb hts (by decide +kernel) hown hK hP 0 rfl rfl 6 (by decide) (hts (.fieldLink RX8 64 "SummitTimeModel" "value" "I") (by decide +kernel)) (fun _ h9 => h9) rfl dX8_readText_82 ?_
              refine lv_bipush (v := nI 59) hx hb dX8_readText_85 rfl ?_
              refine lv_icmp_ne (tgt := 99) hx hb dX8_readText_87 (by decide) (fun c_6 => ?_) (fun c_6 => ?_)
              · refine lv_iconst (v := nI 0) hx hb dX8_readText_99 rfl ?_
                subst hQe
                have hf : (f_X8_readText to mt rd) = (nI 0, T_61_11, T_42_10.2) := by subst hT_61_11; subst hT_42_10; subst hT_429999_10; subst hT_38_9; subst hT_12_1; rw [← hRES, ← hL_37, L_X8_readText_37, if_neg c_3, if_neg c_4, if_pos c_5, if_neg c_6]
                exact W.zret (v := nI 0) (ty := .boolean) hx hb hr rfl (fun t ht hW => ⟨⟨nI 0, (T_61_11, T_42_10.2), rfl, ⟨(congrArg Prod.fst hf).symm, (congrArg Prod.snd hf).symm⟩, va_Pt ht hP⟩, hS.F ht⟩) hS.2.2 dX8_readText_100
              · refine lv_aload_n hx hb dX8_readText_90 rfl (lv_at hl 0 rfl) ?_
                refine va_get (D := D) (ci := 8) (v := .int (nI T_61_11.2.2.2.2.2.2)) (C := RX8) (T := TX8) (N := 18) hx hb hts (by decide +kernel) hown hK hP 0 rfl rfl 9 (by decide) (hts (.fieldLink RX8 111 "SummitTimeModel" "clauses" "I") (by decide +kernel)) (fun _ h9 => h9) rfl dX8_readText_91 ?_
                refine lv_bipush (v := nI 14) hx hb dX8_readText_94 rfl ?_
                refine mv_icmp_ne (tgt := 37) hx hb dX8_readText_96 (by decide) (by have h9 := (rt3 hT_38_9 hT_42_10 hT_61_11 im ir).2.2; omega) (by decide) (fun c_7 => ?_) (fun c_7 => ?_)
                · exact ih_37 T_61_11 T_42_10.2 (rt3 hT_38_9 hT_42_10 hT_61_11 im ir).1 (rt3 hT_38_9 hT_42_10 hT_61_11 im ir).2.1 (by have h9 := (rt3 hT_38_9 hT_42_10 hT_61_11 im ir).2.2; omega) (by have h9 := (rt3 hT_38_9 hT_42_10 hT_61_11 im ir).2.2; have h8 := c_7; omega) (by subst hT_61_11; subst hT_42_10; subst hT_429999_10; subst hT_38_9; have e9 := hL_37; rw [L_X8_readText_37, if_neg c_3, if_neg c_4, if_pos c_5, if_pos c_6, if_neg c_7] at e9; exact e9) _ _ ls hP hS (lv_sub hl [0] rfl)
                · refine lv_iconst (v := nI 0) hx hb dX8_readText_99 rfl ?_
                  subst hQe
                  have hf : (f_X8_readText to mt rd) = (nI 0, T_61_11, T_42_10.2) := by subst hT_61_11; subst hT_42_10; subst hT_429999_10; subst hT_38_9; subst hT_12_1; rw [← hRES, ← hL_37, L_X8_readText_37, if_neg c_3, if_neg c_4, if_pos c_5, if_pos c_6, if_pos c_7]
                  exact W.zret (v := nI 0) (ty := .boolean) hx hb hr rfl (fun t ht hW => ⟨⟨nI 0, (T_61_11, T_42_10.2), rfl, ⟨(congrArg Prod.fst hf).symm, (congrArg Prod.snd hf).symm⟩, va_Pt ht hP⟩, hS.F ht⟩) hS.2.2 dX8_readText_100
          · refine lv_iconst (v := nI 1) hx hb dX8_readText_72 rfl ?_
            subst hQe
            have hf : (f_X8_readText to mt rd) = (nI 1, T_61_11, T_42_10.2) := by subst hT_61_11; subst hT_42_10; subst hT_429999_10; subst hT_38_9; subst hT_12_1; rw [← hRES, ← hL_37, L_X8_readText_37, if_neg c_3, if_pos c_4]
            exact W.zret (v := nI 1) (ty := .boolean) hx hb hr rfl (fun t ht hW => ⟨⟨nI 1, (T_61_11, T_42_10.2), rfl, ⟨(congrArg Prod.fst hf).symm, (congrArg Prod.snd hf).symm⟩, va_Pt ht hP⟩, hS.F ht⟩) hS.2.2 dX8_readText_73
        · refine lv_iconst (v := nI 0) hx hb dX8_readText_48 rfl ?_
          subst hQe
          have hf : (f_X8_readText to mt rd) = (nI 0, T_42_10.1, T_42_10.2) := by subst hT_42_10; subst hT_429999_10; subst hT_38_9; subst hT_12_1; rw [← hRES, ← hL_37, L_X8_readText_37, if_pos c_3]
          exact W.zret (v := nI 0) (ty := .boolean) hx hb hr rfl (fun t ht hW => ⟨⟨nI 0, (T_42_10.1, T_42_10.2), rfl, ⟨(congrArg Prod.fst hf).symm, (congrArg Prod.snd hf).symm⟩, va_Pt ht hP⟩, hS.F ht⟩) hS.2.2 dX8_readText_49
    exact loop_37 14 (mt.1, mt.2.1, 0, mt.2.2.2.1, mt.2.2.2.2.1, mt.2.2.2.2.2.1, 0) T_12_1 ⟨hl0, Nat.zero_le _, hb0⟩ (by rw [hT_12_1]; exact cp_rd hm hm6) rfl (by decide) (by subst hT_12_1; rw [hRES, f_X8_readText]) _ _ ls hP hS (lv_sub hl [0] rfl)
  have loop_12 : ∀ (n_12 : Nat) (k_12 : Nat) (wrd0_12 : Nat → Int32), (k_12 + n_12 = 145) → L_X8_readText_12 to n_12 k_12 wrd0_12 = T_12_1 → ∀ (H : Heap) (locs : List Loc) (ls : Array Slot), va_P D vwCl (mW cI cL cZ ad to st (mt.1, mt.2.1, 0, mt.2.2.2.1, mt.2.2.2.2.1, mt.2.2.2.2.2.1, 0) wrd0_12 un kp rw se) H → va_S A s.heap H locs → lv_has ls 2 [(1, .int (nI k_12)), (0, .ref (ad 0))] → W p l e (headSpec wsX8_readText rm_X8_readText).room s m ([.ref (ad 0)] : List Value).toArray below meth c H locs 0 0 Q (F0 m 12 ls []) := by
    intro n_12
    induction n_12 with
    | zero =>
      intro k_12 wrd0_12 hk_12 hL_12 H locs ls hP hS hl
      have hD : va_D A (mW cI cL cZ ad to st (mt.1, mt.2.1, 0, mt.2.2.2.1, mt.2.2.2.2.1, mt.2.2.2.2.2.1, 0) wrd0_12 un kp rw se) := mW_D hD
      refine lv_iload_n hx hb dX8_readText_12 rfl (lv_at hl 0 rfl) ?_
      refine lv_sipush (v := nI 145) hx hb dX8_readText_13 rfl ?_
      refine mv_icmp_ge (tgt := 37) hx hb dX8_readText_16 (by decide) (by omega) (by decide) (fun c_2 => ?_) (fun c_2 => (by omega : False).elim)
      have e9 : T_12_1 = wrd0_12 := by rw [← hL_12, L_X8_readText_12]
      have hq := hexit_12
      rw [e9] at hq
      exact hq _ _ ls  hP hS (lv_sub hl [1] rfl)
    | succ n_12 ih_12 =>
      intro k_12 wrd0_12 hk_12 hL_12 H locs ls hP hS hl
      have hD : va_D A (mW cI cL cZ ad to st (mt.1, mt.2.1, 0, mt.2.2.2.1, mt.2.2.2.2.1, mt.2.2.2.2.2.1, 0) wrd0_12 un kp rw se) := mW_D hD
      refine lv_iload_n hx hb dX8_readText_12 rfl (lv_at hl 0 rfl) ?_
      refine lv_sipush (v := nI 145) hx hb dX8_readText_13 rfl ?_
      refine mv_icmp_ge (tgt := 37) hx hb dX8_readText_16 (by decide) (by omega) (by decide) (fun c_1 => (by omega : False).elim) (fun c_1 => ?_)
      refine lv_aload_n hx hb dX8_readText_19 rfl (lv_at hl 1 rfl) ?_
      refine va_get (D := D) (ci := 8) (v := .ref (ad 4)) (C := RX8) (T := TX8) (N := 18) hx hb hts (by decide +kernel) hown hK hP 0 rfl rfl 8 (by decide) (hts (.fieldLink RX8 19 "SummitTimeModel" "read" "[I") (by decide +kernel)) (fun _ h9 => h9) rfl dX8_readText_20 ?_
      refine lv_iload_n hx hb dX8_readText_23 rfl (lv_at hl 0 rfl) ?_
      refine lv_aload_n hx hb dX8_readText_24 rfl (lv_at hl 1 rfl) ?_
      refine va_get (D := D) (ci := 8) (v := .ref (ad 1)) (C := RX8) (T := TX8) (N := 18) hx hb hts (by decide +kernel) hown hK hP 0 rfl rfl 0 (by decide) (hts (.fieldLink RX8 7 "SummitTimeModel" "told" "[I") (by decide +kernel)) (fun _ h9 => h9) rfl dX8_readText_25 ?_
      refine lv_iload_n hx hb dX8_readText_28 rfl (lv_at hl 0 rfl) ?_
      refine mv_iald (f := to) hx hb hK hP 1 0 rfl rfl (by omega) (by decide) dX8_readText_29 ?_
      refine mv_iast (f := wrd0_12) hx hb hK hP hD hS 4 0 rfl rfl (by omega) (by decide) dX8_readText_30 (fun H locs hP hD hS => ?_)
      have hP : va_P D vwCl (mW cI cL cZ ad to st (mt.1, mt.2.1, 0, mt.2.2.2.1, mt.2.2.2.2.1, mt.2.2.2.2.2.1, 0) (upd wrd0_12 k_12 (to k_12)) un kp rw se) H := hP
      have hD : va_D A (mW cI cL cZ ad to st (mt.1, mt.2.1, 0, mt.2.2.2.1, mt.2.2.2.2.1, mt.2.2.2.2.2.1, 0) (upd wrd0_12 k_12 (to k_12)) un kp rw se) := hD
      refine mv_iinc (y := k_12 + 1) (lv' := [(1, .int (nI (k_12 + 1))), (0, .ref (ad 0))]) hx hb dX8_readText_31 hl (k := 0) rfl (nI_p1 _) (by decide) rfl (fun ls hl => ?_)
      refine lv_goto (tgt := 12) hx hb dX8_readText_34 (by decide) ?_
      exact ih_12 (k_12 + 1) (upd wrd0_12 k_12 (to k_12)) (by omega) (by have e9 := hL_12; rw [L_X8_readText_12] at e9; exact e9) _ _ ls hP hS (lv_sub hl [0, 1] rfl)
  exact loop_12 145 0 rd (by omega) hT_12_1.symm _ _ ls hP hS (lv_sub hl [0, 1] rfl)
