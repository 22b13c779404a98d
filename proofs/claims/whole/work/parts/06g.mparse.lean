def ntF (mt : MTx) (T0 : Nat) (T : Nat × Int32 × Int32) : MTx := (if T.2.1 = nI 2 then (if ((nI T.1) - (nI T0)) ≤ nI 2 then (if T.2.1 = 0 then (mt.1, mt.2.1, (T.1 + 1), T.2.1, (mt.1 T.1), T0, mt.2.2.2.2.2.2) else (mt.1, mt.2.1, T.1, T.2.1, T.2.2, T0, mt.2.2.2.2.2.2)) else (if T.2.1 = 0 then (mt.1, mt.2.1, (T.1 + 1), T.2.1, (mt.1 T.1), T0, mt.2.2.2.2.2.2) else (mt.1, mt.2.1, T.1, T.2.1, (nI 999), T0, mt.2.2.2.2.2.2))) else (if T.2.1 = 0 then (mt.1, mt.2.1, (T.1 + 1), T.2.1, (mt.1 T.1), T0, mt.2.2.2.2.2.2) else (mt.1, mt.2.1, T.1, T.2.1, T.2.2, T0, mt.2.2.2.2.2.2)))
def nt0 (mt : MTx) : Nat := L_X8_nextToken_0 mt mt.2.1 mt.2.2.1
def nt1 (mt : MTx) : Nat × Int32 := L_X8_nextToken_59 mt (nt0 mt) mt.2.1 (nt0 mt) (if nt0 mt = mt.2.1 then nI 3 else nI 0)
def nt2 (mt : MTx) : Nat × Int32 × Int32 := L_X8_nextToken_106 mt (nt0 mt) mt.2.1 (nt1 mt).1 (nt1 mt).2 (nI 0)
theorem nt_eq (mt : MTx) : f_X8_nextToken mt = ntF mt (nt0 mt) (nt2 mt) := rfl
theorem nt0_in (mt : MTx) : ∀ (n w : Nat), w ≤ mt.2.1 → w ≤ L_X8_nextToken_0 mt n w ∧ L_X8_nextToken_0 mt n w ≤ mt.2.1
  | 0, w, h => ⟨Nat.le_refl w, h⟩
  | n + 1, w, h => by
    rw [L_X8_nextToken_0]
    split
    · rename_i c
      have h1 : w < mt.2.1 := la_lt c (by decide)
      have h2 := nt0_in mt n (w + 1) h1
      omega
    · exact ⟨Nat.le_refl w, h⟩
theorem nt1_in (mt : MTx) (T0 : Nat) : ∀ (n w : Nat) (t : Int32), w ≤ mt.2.1 → (t = 0 → w < mt.2.1) → w ≤ (L_X8_nextToken_59 mt T0 n w t).1 ∧ (L_X8_nextToken_59 mt T0 n w t).1 ≤ mt.2.1 ∧ ((L_X8_nextToken_59 mt T0 n w t).2 = 0 → (L_X8_nextToken_59 mt T0 n w t).1 < mt.2.1)
  | 0, w, t, h, ht => by
    rw [L_X8_nextToken_59]
    split <;> exact ⟨Nat.le_refl w, h, ht⟩
  | n + 1, w, t, h, ht => by
    rw [L_X8_nextToken_59]
    split
    · exact ⟨Nat.le_refl w, h, ht⟩
    · split
      · exact ⟨Nat.le_refl w, h, ht⟩
      · rename_i c
        have h1 : w < mt.2.1 := la_in c (by decide)
        have h2 := nt1_in mt T0 n (w + 1) (nI 1) h1 (fun q => absurd q (by decide))
        exact ⟨by omega, h2.2⟩
theorem nt2_in (mt : MTx) (T0 : Nat) : ∀ (n w : Nat) (t v : Int32), w ≤ mt.2.1 → (t = 0 → w < mt.2.1) → w ≤ (L_X8_nextToken_106 mt T0 n w t v).1 ∧ (L_X8_nextToken_106 mt T0 n w t v).1 ≤ mt.2.1 ∧ ((L_X8_nextToken_106 mt T0 n w t v).2.1 = 0 → (L_X8_nextToken_106 mt T0 n w t v).1 < mt.2.1)
  | 0, w, t, v, h, ht => by
    rw [L_X8_nextToken_106]
    split <;> exact ⟨Nat.le_refl w, h, ht⟩
  | n + 1, w, t, v, h, ht => by
    rw [L_X8_nextToken_106]
    split
    · exact ⟨Nat.le_refl w, h, ht⟩
    · split
      · exact ⟨Nat.le_refl w, h, ht⟩
      · rename_i c
        have h1 : w < mt.2.1 := la_in c (by decide)
        have h2 := nt2_in mt T0 n (w + 1) (nI 2) (if v ≤ nI 99 then ((((nI 10) * v) + (mt.1 w)) - (nI 48)) else v) h1 (fun q => absurd q (by decide))
        exact ⟨by omega, h2.2⟩
theorem nt_b {mt : MTx} (h : mtOk mt) : mt.2.2.1 ≤ nt0 mt ∧ nt0 mt ≤ (nt2 mt).1 ∧ (nt2 mt).1 ≤ mt.2.1 ∧ ((nt2 mt).2.1 = 0 → (nt2 mt).1 < mt.2.1) := by
  have h0 := nt0_in mt mt.2.1 mt.2.2.1 h.2.1
  have h1 := nt1_in mt (nt0 mt) mt.2.1 (nt0 mt) (if nt0 mt = mt.2.1 then nI 3 else nI 0) h0.2 (nt_tok h0.2)
  have h2 := nt2_in mt (nt0 mt) mt.2.1 (nt1 mt).1 (nt1 mt).2 (nI 0) h1.2.1 h1.2.2
  exact ⟨h0.1, Nat.le_trans h1.1 h2.1, h2.2.1, h2.2.2⟩
theorem ntF_ok {mt : MTx} {T0 : Nat} {T : Nat × Int32 × Int32} (h : mt.2.1 ≤ 160) (h0 : T0 ≤ T.1) (h1 : T.1 ≤ mt.2.1) (h2 : T.2.1 = 0 → T.1 < mt.2.1) : mtOk (ntF mt T0 T) ∧ (ntF mt T0 T).1 = mt.1 ∧ (ntF mt T0 T).2.1 = mt.2.1 ∧ (ntF mt T0 T).2.2.2.2.2.2 = mt.2.2.2.2.2.2 ∧ (ntF mt T0 T).2.2.2.2.2.1 = T0 ∧ T0 ≤ (ntF mt T0 T).2.2.1 := by
  have h3 : T0 ≤ 160 := by omega
  unfold ntF
  (repeat' split) <;> first | (rename_i c; exact ⟨⟨h, h2 c, h3⟩, rfl, rfl, rfl, rfl, Nat.le_succ_of_le h0⟩) | exact ⟨⟨h, h1, h3⟩, rfl, rfl, rfl, rfl, h0⟩
theorem nt_all {mt : MTx} (h : mtOk mt) : mtOk (f_X8_nextToken mt) ∧ (f_X8_nextToken mt).1 = mt.1 ∧ (f_X8_nextToken mt).2.1 = mt.2.1 ∧ (f_X8_nextToken mt).2.2.2.2.2.2 = mt.2.2.2.2.2.2 ∧ (f_X8_nextToken mt).2.2.2.2.2.1 = nt0 mt ∧ nt0 mt ≤ (f_X8_nextToken mt).2.2.1 := by
  have hb := nt_b h
  rw [nt_eq]
  exact ntF_ok h.1 hb.2.1 hb.2.2.1 hb.2.2.2
theorem nt_ok {mt : MTx} (h : mtOk mt) : mtOk (f_X8_nextToken mt) := (nt_all h).1
def rdOk (rd : Nat → Int32) : Prop := rd 0 = nI (mN rd) ∧ mN rd ≤ 6
def L_X8_wordOf_7 (mt : MTx) : Nat → Nat → Int64 → Int64
  | 0, k_7, x1_7 => (if mt.2.2.1 ≤ k_7 then x1_7 else x1_7)
  | n_7 + 1, k_7, x1_7 => (if mt.2.2.1 ≤ k_7 then x1_7 else (L_X8_wordOf_7 mt n_7 (k_7 + 1) (((((27 : Int64) * x1_7) + ((mt.1 k_7).toInt64)) - (97 : Int64)) + (1 : Int64))))
def f_X8_wordOf (mt : MTx) : Int64 := (if mt.2.2.2.1 = nI 1 then (L_X8_wordOf_7 mt ((mt.2.2.2.2.2.1 + 9) - mt.2.2.2.2.2.1) mt.2.2.2.2.2.1 (0 : Int64)) else (0 : Int64))
abbrev rm_X8_wordOf : Room := { frames := 0, cells := 0, slots := 0, locals := 0 }
set_option maxHeartbeats 4000000 in
set_option maxRecDepth 100000 in
theorem c_X8_wordOf (l : Launch) (D : va_G) (cI cL cZ : ClassId) (ad : Nat → Nat) (A : Nat → Prop) (to : (Nat → Int32)) (st : (Nat → Int32)) (mt : MTx) (rd : (Nat → Int32)) (un : MUn) (kp : MKp) (rw : MKp) (se : MUn)  (hmt : mtOk mt) : Met l yX8_wordOf wsX8_wordOf rm_X8_wordOf (va_Pc [.ref (ad 0)] (sR D cI cL cZ A (mW cI cL cZ ad to st mt rd un kp rw se))) (vp_Sl (fun r => r = (f_X8_wordOf mt))) 0 0 (fun _ => False) := by
  refine Met.ofW (cc := cX8_wordOf) (maxL := 4) (ret := (some .long)) (by decide) rfl ?_
  intro p e s m args below meth c s₁ B hml hv
  obtain ⟨rfl, hP, hK, hD, hE⟩ := hv
  have hx := B.exec
  have hb := B.bytes
  have hr := B.returns
  have hts := atoms_spec (ws := wsX8_wordOf) B.pre
  have hown : s.vm.findClass RX8 = some m.cls := findClass_of_methodNamed B.named
  have hlocks := B.notSynchronized
  have hl := lv_entry ([.ref (ad 0)]) (n := 4) (Nat.le_of_ble_eq_true rfl)
  rw [lg_entry_eq]
  generalize (lg_sl ([.ref (ad 0)]) ++ List.replicate (4 - (lg_sl ([.ref (ad 0)])).length) Slot.unset).toArray = ls at hl ⊢
  have hl : lv_has ls 4 [(0, .ref (ad 0))] := hl
  have hl0 := hmt.1
  have hp0 := hmt.2.1
  have hb0 := hmt.2.2
  obtain ⟨Q, hQe⟩ : ∃ Q, Q = MQ below (vp_Sl (fun r => r = (f_X8_wordOf mt))) ([.ref (ad 0)] : List Value).toArray s 0 0 (fun _ => False) := ⟨_, rfl⟩
  show W p l e (headSpec wsX8_wordOf rm_X8_wordOf).room s m ([.ref (ad 0)] : List Value).toArray below meth c s.heap [] 0 0 (MQ below (vp_Sl (fun r => r = (f_X8_wordOf mt))) ([.ref (ad 0)] : List Value).toArray s 0 0 (fun _ => False)) (F0 m 0 ls [])
  rw [← hQe]
  refine lv_lconst (v := 0) hx hb dX8_wordOf_0 rfl ?_
  refine lv_lstore_n (lv' := [(1, .long (0 : Int64)), (0, .ref (ad 0))]) hx hb dX8_wordOf_1 rfl hl (by decide) rfl (fun ls hl => ?_)
  refine lv_aload_n hx hb dX8_wordOf_2 rfl (lv_at hl 1 rfl) ?_
  refine va_get (D := D) (ci := 8) (v := .int (nI mt.2.2.2.2.2.1)) (C := RX8) (T := TX8) (N := 18) hx hb hts (by decide +kernel) hown hK hP 0 rfl rfl 7 (by decide) (hts (.fieldLink RX8 61 "SummitTimeModel" "begins" "I") (by decide +kernel)) (fun _ h9 => h9) rfl dX8_wordOf_3 ?_
  refine lv_istore_n (lv' := [(3, .int (nI mt.2.2.2.2.2.1)), (1, .long (0 : Int64)), (0, .ref (ad 0))]) hx hb dX8_wordOf_6 rfl hl (by decide) rfl (fun ls hl => ?_)
  obtain ⟨T_7_1, hT_7_1⟩ : ∃ z, z = (L_X8_wordOf_7 mt ((mt.2.2.2.2.2.1 + 9) - mt.2.2.2.2.2.1) mt.2.2.2.2.2.1 (0 : Int64)) := ⟨_, rfl⟩
  have hexit_7 : ∀ (ls : Array Slot), lv_has ls 4 [(1, .long T_7_1), (0, .ref (ad 0))] → W p l e (headSpec wsX8_wordOf rm_X8_wordOf).room s m ([.ref (ad 0)] : List Value).toArray below meth c s.heap [] 0 0 Q (F0 m 52 ls []) := by
    intro ls hl
    refine lv_aload_n hx hb dX8_wordOf_52 rfl (lv_at hl 1 rfl) ?_
    refine va_get (D := D) (ci := 8) (v := .int mt.2.2.2.1) (C := RX8) (T := TX8) (N := 18) hx hb hts (by decide +kernel) hown hK hP 0 rfl rfl 5 (by decide) (hts (.fieldLink RX8 67 "SummitTimeModel" "token" "I") (by decide +kernel)) (fun _ h9 => h9) rfl dX8_wordOf_53 ?_
    refine lv_iconst (v := nI 1) hx hb dX8_wordOf_56 rfl ?_
    refine mv_phil (v := (if mt.2.2.2.1 = nI 1 then T_7_1 else (0 : Int64))) (pcj := 65) (ls := ls) (rest' := []) ?_ (fun J_5 => ?_)
    · subst hT_7_1
      subst hQe
      exact W.lret (v := (if mt.2.2.2.1 = nI 1 then (L_X8_wordOf_7 mt ((mt.2.2.2.2.2.1 + 9) - mt.2.2.2.2.2.1) mt.2.2.2.2.2.1 (0 : Int64)) else (0 : Int64))) hx hb hr (fun t ht hW => ⟨(if mt.2.2.2.1 = nI 1 then (L_X8_wordOf_7 mt ((mt.2.2.2.2.2.1 + 9) - mt.2.2.2.2.2.1) mt.2.2.2.2.2.1 (0 : Int64)) else (0 : Int64)), rfl, (by rw [f_X8_wordOf]), ht⟩) (fun _ h => by cases h) dX8_wordOf_65
    · refine lv_icmp_ne (tgt := 64) hx hb dX8_wordOf_57 (by decide) (fun c_6 => ?_) (fun c_6 => ?_)
      · refine lv_lconst (v := 0) hx hb dX8_wordOf_64 rfl ?_
        exact J_5 _ (by rw [if_neg c_6])
      · refine lv_lload_n hx hb dX8_wordOf_60 rfl (lv_at hl 0 rfl) ?_
        refine lv_goto (tgt := 65) hx hb dX8_wordOf_61 (by decide) ?_
        exact J_5 _ (by rw [if_pos c_6])
  have loop_7 : ∀ (n_7 : Nat) (k_7 : Nat) (x1_7 : Int64), (k_7 + n_7 = (mt.2.2.2.2.2.1 + 9)) → L_X8_wordOf_7 mt n_7 k_7 x1_7 = T_7_1 → ∀ (ls : Array Slot), lv_has ls 4 [(3, .int (nI k_7)), (1, .long x1_7), (0, .ref (ad 0))] → W p l e (headSpec wsX8_wordOf rm_X8_wordOf).room s m ([.ref (ad 0)] : List Value).toArray below meth c s.heap [] 0 0 Q (F0 m 7 ls []) := by
    intro n_7
    induction n_7 with
    | zero =>
      intro k_7 x1_7 hk_7 hL_7 ls hl
      refine lv_iload_n hx hb dX8_wordOf_7 rfl (lv_at hl 0 rfl) ?_
      refine lv_aload_n hx hb dX8_wordOf_8 rfl (lv_at hl 2 rfl) ?_
      refine va_get (D := D) (ci := 8) (v := .int (nI mt.2.2.1)) (C := RX8) (T := TX8) (N := 18) hx hb hts (by decide +kernel) hown hK hP 0 rfl rfl 4 (by decide) (hts (.fieldLink RX8 54 "SummitTimeModel" "place" "I") (by decide +kernel)) (fun _ h9 => h9) rfl dX8_wordOf_9 ?_
      refine mv_icmp_ge (tgt := 52) hx hb dX8_wordOf_12 (by decide) (by omega) (by omega) (fun c_3 => ?_) (fun c_3 => ?_)
      · have e9 : T_7_1 = x1_7 := by rw [← hL_7, L_X8_wordOf_7, if_pos c_3]
        have hq := hexit_7
        rw [e9] at hq
        exact hq ls  (lv_sub hl [1, 2] rfl)
      · refine lv_iload_n hx hb dX8_wordOf_15 rfl (lv_at hl 0 rfl) ?_
        refine lv_aload_n hx hb dX8_wordOf_16 rfl (lv_at hl 2 rfl) ?_
        refine va_get (D := D) (ci := 8) (v := .int (nI mt.2.2.2.2.2.1)) (C := RX8) (T := TX8) (N := 18) hx hb hts (by decide +kernel) hown hK hP 0 rfl rfl 7 (by decide) (hts (.fieldLink RX8 61 "SummitTimeModel" "begins" "I") (by decide +kernel)) (fun _ h9 => h9) rfl dX8_wordOf_17 ?_
        refine lv_bipush (v := nI 9) hx hb dX8_wordOf_20 rfl ?_
        refine mv_iadd hx hb dX8_wordOf_22 ?_
        refine mv_icmp_ge (tgt := 52) hx hb dX8_wordOf_23 (by decide) (by omega) (by omega) (fun c_4 => ?_) (fun c_4 => (by omega : False).elim)
        have e9 : T_7_1 = x1_7 := by rw [← hL_7, L_X8_wordOf_7, if_neg c_3]
        have hq := hexit_7
        rw [e9] at hq
        exact hq ls  (lv_sub hl [1, 2] rfl)
    | succ n_7 ih_7 =>
      intro k_7 x1_7 hk_7 hL_7 ls hl
      refine lv_iload_n hx hb dX8_wordOf_7 rfl (lv_at hl 0 rfl) ?_
      refine lv_aload_n hx hb dX8_wordOf_8 rfl (lv_at hl 2 rfl) ?_
      refine va_get (D := D) (ci := 8) (v := .int (nI mt.2.2.1)) (C := RX8) (T := TX8) (N := 18) hx hb hts (by decide +kernel) hown hK hP 0 rfl rfl 4 (by decide) (hts (.fieldLink RX8 54 "SummitTimeModel" "place" "I") (by decide +kernel)) (fun _ h9 => h9) rfl dX8_wordOf_9 ?_
      refine mv_icmp_ge (tgt := 52) hx hb dX8_wordOf_12 (by decide) (by omega) (by omega) (fun c_1 => ?_) (fun c_1 => ?_)
      · have e9 : T_7_1 = x1_7 := by rw [← hL_7, L_X8_wordOf_7, if_pos c_1]
        have hq := hexit_7
        rw [e9] at hq
        exact hq ls  (lv_sub hl [1, 2] rfl)
      · refine lv_iload_n hx hb dX8_wordOf_15 rfl (lv_at hl 0 rfl) ?_
        refine lv_aload_n hx hb dX8_wordOf_16 rfl (lv_at hl 2 rfl) ?_
        refine va_get (D := D) (ci := 8) (v := .int (nI mt.2.2.2.2.2.1)) (C := RX8) (T := TX8) (N := 18) hx hb hts (by decide +kernel) hown hK hP 0 rfl rfl 7 (by decide) (hts (.fieldLink RX8 61 "SummitTimeModel" "begins" "I") (by decide +kernel)) (fun _ h9 => h9) rfl dX8_wordOf_17 ?_
        refine lv_bipush (v := nI 9) hx hb dX8_wordOf_20 rfl ?_
        refine mv_iadd hx hb dX8_wordOf_22 ?_
        refine mv_icmp_ge (tgt := 52) hx hb dX8_wordOf_23 (by decide) (by omega) (by omega) (fun c_2 => (by omega : False).elim) (fun c_2 => ?_)
        refine lv_ldc2 (v := (27)) hx hb hown (hts (.constantLong RX8 78 (27)) (by decide +kernel)) dX8_wordOf_26 ?_
        refine lv_lload_n hx hb dX8_wordOf_29 rfl (lv_at hl 1 rfl) ?_
        refine lv_lmul hx hb dX8_wordOf_30 ?_
        refine lv_aload_n hx hb dX8_wordOf_31 rfl (lv_at hl 2 rfl) ?_
        refine va_get (D := D) (ci := 8) (v := .ref (ad 3)) (C := RX8) (T := TX8) (N := 18) hx hb hts (by decide +kernel) hown hK hP 0 rfl rfl 2 (by decide) (hts (.fieldLink RX8 16 "SummitTimeModel" "text" "[I") (by decide +kernel)) (fun _ h9 => h9) rfl dX8_wordOf_32 ?_
        refine lv_iload_n hx hb dX8_wordOf_35 rfl (lv_at hl 0 rfl) ?_
        refine mv_iald (f := mt.1) hx hb hK hP 3 0 rfl rfl (by omega) (by decide) dX8_wordOf_36 ?_
        refine lv_i2l hx hb dX8_wordOf_37 rfl ?_
        refine lv_ladd hx hb dX8_wordOf_38 ?_
        refine lv_ldc2 (v := (97)) hx hb hown (hts (.constantLong RX8 70 (97)) (by decide +kernel)) dX8_wordOf_39 ?_
        refine lv_lsub hx hb dX8_wordOf_42 ?_
        refine lv_lconst (v := 1) hx hb dX8_wordOf_43 rfl ?_
        refine lv_ladd hx hb dX8_wordOf_44 ?_
        refine lv_lstore_n (lv' := [(1, .long (((((27 : Int64) * x1_7) + ((mt.1 k_7).toInt64)) - (97 : Int64)) + (1 : Int64))), (3, .int (nI k_7)), (0, .ref (ad 0))]) hx hb dX8_wordOf_45 rfl hl (by decide) rfl (fun ls hl => ?_)
        refine mv_iinc (y := k_7 + 1) (lv' := [(3, .int (nI (k_7 + 1))), (1, .long (((((27 : Int64) * x1_7) + ((mt.1 k_7).toInt64)) - (97 : Int64)) + (1 : Int64))), (0, .ref (ad 0))]) hx hb dX8_wordOf_46 hl (k := 1) rfl (nI_p1 _) (by decide) rfl (fun ls hl => ?_)
        refine lv_goto (tgt := 7) hx hb dX8_wordOf_49 (by decide) ?_
        exact ih_7 (k_7 + 1) (((((27 : Int64) * x1_7) + ((mt.1 k_7).toInt64)) - (97 : Int64)) + (1 : Int64)) (by omega) (by have e9 := hL_7; rw [L_X8_wordOf_7, if_neg c_1] at e9; exact e9) ls (lv_sub hl [0, 1, 2] rfl)
  exact loop_7 ((mt.2.2.2.2.2.1 + 9) - mt.2.2.2.2.2.1) mt.2.2.2.2.2.1 (0 : Int64) (by omega) hT_7_1.symm ls (lv_sub hl [0, 1, 2] rfl)
def f_X8_spelt (z0 : Int32) (z1 : Int32) (z2 : Int32) (z3 : Int32) (z4 : Int32) (z5 : Int32) (z6 : Int32) : Int64 := (if z6 = 0 then (if z5 = 0 then (if z4 = 0 then (if z3 = 0 then (if z2 = 0 then (if z1 = 0 then (((0 : Int64) * (27 : Int64)) + ((if z0 = 0 then nI 0 else ((z0 - (nI 97)) + (nI 1))).toInt64)) else (((((((0 : Int64) * (27 : Int64)) + ((if z0 = 0 then nI 0 else ((z0 - (nI 97)) + (nI 1))).toInt64)) * (27 : Int64)) + z1.toInt64) - (97 : Int64)) + (1 : Int64))) else (((((if z1 = 0 then (((0 : Int64) * (27 : Int64)) + ((if z0 = 0 then nI 0 else ((z0 - (nI 97)) + (nI 1))).toInt64)) else (((((((0 : Int64) * (27 : Int64)) + ((if z0 = 0 then nI 0 else ((z0 - (nI 97)) + (nI 1))).toInt64)) * (27 : Int64)) + z1.toInt64) - (97 : Int64)) + (1 : Int64))) * (27 : Int64)) + z2.toInt64) - (97 : Int64)) + (1 : Int64))) else (((((if z2 = 0 then (if z1 = 0 then (((0 : Int64) * (27 : Int64)) + ((if z0 = 0 then nI 0 else ((z0 - (nI 97)) + (nI 1))).toInt64)) else (((((((0 : Int64) * (27 : Int64)) + ((if z0 = 0 then nI 0 else ((z0 - (nI 97)) + (nI 1))).toInt64)) * (27 : Int64)) + z1.toInt64) - (97 : Int64)) + (1 : Int64))) else (((((if z1 = 0 then (((0 : Int64) * (27 : Int64)) + ((if z0 = 0 then nI 0 else ((z0 - (nI 97)) + (nI 1))).toInt64)) else (((((((0 : Int64) * (27 : Int64)) + ((if z0 = 0 then nI 0 else ((z0 - (nI 97)) + (nI 1))).toInt64)) * (27 : Int64)) + z1.toInt64) - (97 : Int64)) + (1 : Int64))) * (27 : Int64)) + z2.toInt64) - (97 : Int64)) + (1 : Int64))) * (27 : Int64)) + z3.toInt64) - (97 : Int64)) + (1 : Int64))) else (((((if z3 = 0 then (if z2 = 0 then (if z1 = 0 then (((0 : Int64) * (27 : Int64)) + ((if z0 = 0 then nI 0 else ((z0 - (nI 97)) + (nI 1))).toInt64)) else (((((((0 : Int64) * (27 : Int64)) + ((if z0 = 0 then nI 0 else ((z0 - (nI 97)) + (nI 1))).toInt64)) * (27 : Int64)) + z1.toInt64) - (97 : Int64)) + (1 : Int64))) else (((((if z1 = 0 then (((0 : Int64) * (27 : Int64)) + ((if z0 = 0 then nI 0 else ((z0 - (nI 97)) + (nI 1))).toInt64)) else (((((((0 : Int64) * (27 : Int64)) + ((if z0 = 0 then nI 0 else ((z0 - (nI 97)) + (nI 1))).toInt64)) * (27 : Int64)) + z1.toInt64) - (97 : Int64)) + (1 : Int64))) * (27 : Int64)) + z2.toInt64) - (97 : Int64)) + (1 : Int64))) else (((((if z2 = 0 then (if z1 = 0 then (((0 : Int64) * (27 : Int64)) + ((if z0 = 0 then nI 0 else ((z0 - (nI 97)) + (nI 1))).toInt64)) else (((((((0 : Int64) * (27 : Int64)) + ((if z0 = 0 then nI 0 else ((z0 - (nI 97)) + (nI 1))).toInt64)) * (27 : Int64)) + z1.toInt64) - (97 : Int64)) + (1 : Int64))) else (((((if z1 = 0 then (((0 : Int64) * (27 : Int64)) + ((if z0 = 0 then nI 0 else ((z0 - (nI 97)) + (nI 1))).toInt64)) else (((((((0 : Int64) * (27 : Int64)) + ((if z0 = 0 then nI 0 else ((z0 - (nI 97)) + (nI 1))).toInt64)) * (27 : Int64)) + z1.toInt64) - (97 : Int64)) + (1 : Int64))) * (27 : Int64)) + z2.toInt64) - (97 : Int64)) + (1 : Int64))) * (27 : Int64)) + z3.toInt64) - (97 : Int64)) + (1 : Int64))) * (27 : Int64)) + z4.toInt64) - (97 : Int64)) + (1 : Int64))) else (((((if z4 = 0 then (if z3 = 0 then (if z2 = 0 then (if z1 = 0 then (((0 : Int64) * (27 : Int64)) + ((if z0 = 0 then nI 0 else ((z0 - (nI 97)) + (nI 1))).toInt64)) else (((((((0 : Int64) * (27 : Int64)) + ((if z0 = 0 then nI 0 else ((z0 - (nI 97)) + (nI 1))).toInt64)) * (27 : Int64)) + z1.toInt64) - (97 : Int64)) + (1 : Int64))) else (((((if z1 = 0 then (((0 : Int64) * (27 : Int64)) + ((if z0 = 0 then nI 0 else ((z0 - (nI 97)) + (nI 1))).toInt64)) else (((((((0 : Int64) * (27 : Int64)) + ((if z0 = 0 then nI 0 else ((z0 - (nI 97)) + (nI 1))).toInt64)) * (27 : Int64)) + z1.toInt64) - (97 : Int64)) + (1 : Int64))) * (27 : Int64)) + z2.toInt64) - (97 : Int64)) + (1 : Int64))) else (((((if z2 = 0 then (if z1 = 0 then (((0 : Int64) * (27 : Int64)) + ((if z0 = 0 then nI 0 else ((z0 - (nI 97)) + (nI 1))).toInt64)) else (((((((0 : Int64) * (27 : Int64)) + ((if z0 = 0 then nI 0 else ((z0 - (nI 97)) + (nI 1))).toInt64)) * (27 : Int64)) + z1.toInt64) - (97 : Int64)) + (1 : Int64))) else (((((if z1 = 0 then (((0 : Int64) * (27 : Int64)) + ((if z0 = 0 then nI 0 else ((z0 - (nI 97)) + (nI 1))).toInt64)) else (((((((0 : Int64) * (27 : Int64)) + ((if z0 = 0 then nI 0 else ((z0 - (nI 97)) + (nI 1))).toInt64)) * (27 : Int64)) + z1.toInt64) - (97 : Int64)) + (1 : Int64))) * (27 : Int64)) + z2.toInt64) - (97 : Int64)) + (1 : Int64))) * (27 : Int64)) + z3.toInt64) - (97 : Int64)) + (1 : Int64))) else (((((if z3 = 0 then (if z2 = 0 then (if z1 = 0 then (((0 : Int64) * (27 : Int64)) + ((if z0 = 0 then nI 0 else ((z0 - (nI 97)) + (nI 1))).toInt64)) else (((((((0 : Int64) * (27 : Int64)) + ((if z0 = 0 then nI 0 else ((z0 - (nI 97)) + (nI 1))).toInt64)) * (27 : Int64)) + z1.toInt64) - (97 : Int64)) + (1 : Int64))) else (((((if z1 = 0 then (((0 : Int64) * (27 : Int64)) + ((if z0 = 0 then nI 0 else ((z0 - (nI 97)) + (nI 1))).toInt64)) else (((((((0 : Int64) * (27 : Int64)) + ((if z0 = 0 then nI 0 else ((z0 - (nI 97)) + (nI 1))).toInt64)) * (27 : Int64)) + z1.toInt64) - (97 : Int64)) + (1 : Int64))) * (27 : Int64)) + z2.toInt64) - (97 : Int64)) + (1 : Int64))) else (((((if z2 = 0 then (if z1 = 0 then (((0 : Int64) * (27 : Int64)) + ((if z0 = 0 then nI 0 else ((z0 - (nI 97)) + (nI 1))).toInt64)) else (((((((0 : Int64) * (27 : Int64)) + ((if z0 = 0 then nI 0 else ((z0 - (nI 97)) + (nI 1))).toInt64)) * (27 : Int64)) + z1.toInt64) - (97 : Int64)) + (1 : Int64))) else (((((if z1 = 0 then (((0 : Int64) * (27 : Int64)) + ((if z0 = 0 then nI 0 else ((z0 - (nI 97)) + (nI 1))).toInt64)) else (((((((0 : Int64) * (27 : Int64)) + ((if z0 = 0 then nI 0 else ((z0 - (nI 97)) + (nI 1))).toInt64)) * (27 : Int64)) + z1.toInt64) - (97 : Int64)) + (1 : Int64))) * (27 : Int64)) + z2.toInt64) - (97 : Int64)) + (1 : Int64))) * (27 : Int64)) + z3.toInt64) - (97 : Int64)) + (1 : Int64))) * (27 : Int64)) + z4.toInt64) - (97 : Int64)) + (1 : Int64))) * (27 : Int64)) + z5.toInt64) - (97 : Int64)) + (1 : Int64))) else (((((if z5 = 0 then (if z4 = 0 then (if z3 = 0 then (if z2 = 0 then (if z1 = 0 then (((0 : Int64) * (27 : Int64)) + ((if z0 = 0 then nI 0 else ((z0 - (nI 97)) + (nI 1))).toInt64)) else (((((((0 : Int64) * (27 : Int64)) + ((if z0 = 0 then nI 0 else ((z0 - (nI 97)) + (nI 1))).toInt64)) * (27 : Int64)) + z1.toInt64) - (97 : Int64)) + (1 : Int64))) else (((((if z1 = 0 then (((0 : Int64) * (27 : Int64)) + ((if z0 = 0 then nI 0 else ((z0 - (nI 97)) + (nI 1))).toInt64)) else (((((((0 : Int64) * (27 : Int64)) + ((if z0 = 0 then nI 0 else ((z0 - (nI 97)) + (nI 1))).toInt64)) * (27 : Int64)) + z1.toInt64) - (97 : Int64)) + (1 : Int64))) * (27 : Int64)) + z2.toInt64) - (97 : Int64)) + (1 : Int64))) else (((((if z2 = 0 then (if z1 = 0 then (((0 : Int64) * (27 : Int64)) + ((if z0 = 0 then nI 0 else ((z0 - (nI 97)) + (nI 1))).toInt64)) else (((((((0 : Int64) * (27 : Int64)) + ((if z0 = 0 then nI 0 else ((z0 - (nI 97)) + (nI 1))).toInt64)) * (27 : Int64)) + z1.toInt64) - (97 : Int64)) + (1 : Int64))) else (((((if z1 = 0 then (((0 : Int64) * (27 : Int64)) + ((if z0 = 0 then nI 0 else ((z0 - (nI 97)) + (nI 1))).toInt64)) else (((((((0 : Int64) * (27 : Int64)) + ((if z0 = 0 then nI 0 else ((z0 - (nI 97)) + (nI 1))).toInt64)) * (27 : Int64)) + z1.toInt64) - (97 : Int64)) + (1 : Int64))) * (27 : Int64)) + z2.toInt64) - (97 : Int64)) + (1 : Int64))) * (27 : Int64)) + z3.toInt64) - (97 : Int64)) + (1 : Int64))) else (((((if z3 = 0 then (if z2 = 0 then (if z1 = 0 then (((0 : Int64) * (27 : Int64)) + ((if z0 = 0 then nI 0 else ((z0 - (nI 97)) + (nI 1))).toInt64)) else (((((((0 : Int64) * (27 : Int64)) + ((if z0 = 0 then nI 0 else ((z0 - (nI 97)) + (nI 1))).toInt64)) * (27 : Int64)) + z1.toInt64) - (97 : Int64)) + (1 : Int64))) else (((((if z1 = 0 then (((0 : Int64) * (27 : Int64)) + ((if z0 = 0 then nI 0 else ((z0 - (nI 97)) + (nI 1))).toInt64)) else (((((((0 : Int64) * (27 : Int64)) + ((if z0 = 0 then nI 0 else ((z0 - (nI 97)) + (nI 1))).toInt64)) * (27 : Int64)) + z1.toInt64) - (97 : Int64)) + (1 : Int64))) * (27 : Int64)) + z2.toInt64) - (97 : Int64)) + (1 : Int64))) else (((((if z2 = 0 then (if z1 = 0 then (((0 : Int64) * (27 : Int64)) + ((if z0 = 0 then nI 0 else ((z0 - (nI 97)) + (nI 1))).toInt64)) else (((((((0 : Int64) * (27 : Int64)) + ((if z0 = 0 then nI 0 else ((z0 - (nI 97)) + (nI 1))).toInt64)) * (27 : Int64)) + z1.toInt64) - (97 : Int64)) + (1 : Int64))) else (((((if z1 = 0 then (((0 : Int64) * (27 : Int64)) + ((if z0 = 0 then nI 0 else ((z0 - (nI 97)) + (nI 1))).toInt64)) else (((((((0 : Int64) * (27 : Int64)) + ((if z0 = 0 then nI 0 else ((z0 - (nI 97)) + (nI 1))).toInt64)) * (27 : Int64)) + z1.toInt64) - (97 : Int64)) + (1 : Int64))) * (27 : Int64)) + z2.toInt64) - (97 : Int64)) + (1 : Int64))) * (27 : Int64)) + z3.toInt64) - (97 : Int64)) + (1 : Int64))) * (27 : Int64)) + z4.toInt64) - (97 : Int64)) + (1 : Int64))) else (((((if z4 = 0 then (if z3 = 0 then (if z2 = 0 then (if z1 = 0 then (((0 : Int64) * (27 : Int64)) + ((if z0 = 0 then nI 0 else ((z0 - (nI 97)) + (nI 1))).toInt64)) else (((((((0 : Int64) * (27 : Int64)) + ((if z0 = 0 then nI 0 else ((z0 - (nI 97)) + (nI 1))).toInt64)) * (27 : Int64)) + z1.toInt64) - (97 : Int64)) + (1 : Int64))) else (((((if z1 = 0 then (((0 : Int64) * (27 : Int64)) + ((if z0 = 0 then nI 0 else ((z0 - (nI 97)) + (nI 1))).toInt64)) else (((((((0 : Int64) * (27 : Int64)) + ((if z0 = 0 then nI 0 else ((z0 - (nI 97)) + (nI 1))).toInt64)) * (27 : Int64)) + z1.toInt64) - (97 : Int64)) + (1 : Int64))) * (27 : Int64)) + z2.toInt64) - (97 : Int64)) + (1 : Int64))) else (((((if z2 = 0 then (if z1 = 0 then (((0 : Int64) * (27 : Int64)) + ((if z0 = 0 then nI 0 else ((z0 - (nI 97)) + (nI 1))).toInt64)) else (((((((0 : Int64) * (27 : Int64)) + ((if z0 = 0 then nI 0 else ((z0 - (nI 97)) + (nI 1))).toInt64)) * (27 : Int64)) + z1.toInt64) - (97 : Int64)) + (1 : Int64))) else (((((if z1 = 0 then (((0 : Int64) * (27 : Int64)) + ((if z0 = 0 then nI 0 else ((z0 - (nI 97)) + (nI 1))).toInt64)) else (((((((0 : Int64) * (27 : Int64)) + ((if z0 = 0 then nI 0 else ((z0 - (nI 97)) + (nI 1))).toInt64)) * (27 : Int64)) + z1.toInt64) - (97 : Int64)) + (1 : Int64))) * (27 : Int64)) + z2.toInt64) - (97 : Int64)) + (1 : Int64))) * (27 : Int64)) + z3.toInt64) - (97 : Int64)) + (1 : Int64))) else (((((if z3 = 0 then (if z2 = 0 then (if z1 = 0 then (((0 : Int64) * (27 : Int64)) + ((if z0 = 0 then nI 0 else ((z0 - (nI 97)) + (nI 1))).toInt64)) else (((((((0 : Int64) * (27 : Int64)) + ((if z0 = 0 then nI 0 else ((z0 - (nI 97)) + (nI 1))).toInt64)) * (27 : Int64)) + z1.toInt64) - (97 : Int64)) + (1 : Int64))) else (((((if z1 = 0 then (((0 : Int64) * (27 : Int64)) + ((if z0 = 0 then nI 0 else ((z0 - (nI 97)) + (nI 1))).toInt64)) else (((((((0 : Int64) * (27 : Int64)) + ((if z0 = 0 then nI 0 else ((z0 - (nI 97)) + (nI 1))).toInt64)) * (27 : Int64)) + z1.toInt64) - (97 : Int64)) + (1 : Int64))) * (27 : Int64)) + z2.toInt64) - (97 : Int64)) + (1 : Int64))) else (((((if z2 = 0 then (if z1 = 0 then (((0 : Int64) * (27 : Int64)) + ((if z0 = 0 then nI 0 else ((z0 - (nI 97)) + (nI 1))).toInt64)) else (((((((0 : Int64) * (27 : Int64)) + ((if z0 = 0 then nI 0 else ((z0 - (nI 97)) + (nI 1))).toInt64)) * (27 : Int64)) + z1.toInt64) - (97 : Int64)) + (1 : Int64))) else (((((if z1 = 0 then (((0 : Int64) * (27 : Int64)) + ((if z0 = 0 then nI 0 else ((z0 - (nI 97)) + (nI 1))).toInt64)) else (((((((0 : Int64) * (27 : Int64)) + ((if z0 = 0 then nI 0 else ((z0 - (nI 97)) + (nI 1))).toInt64)) * (27 : Int64)) + z1.toInt64) - (97 : Int64)) + (1 : Int64))) * (27 : Int64)) + z2.toInt64) - (97 : Int64)) + (1 : Int64))) * (27 : Int64)) + z3.toInt64) - (97 : Int64)) + (1 : Int64))) * (27 : Int64)) + z4.toInt64) - (97 : Int64)) + (1 : Int64))) * (27 : Int64)) + z5.toInt64) - (97 : Int64)) + (1 : Int64))) * (27 : Int64)) + z6.toInt64) - (97 : Int64)) + (1 : Int64)))
abbrev rm_X8_spelt : Room := { frames := 0, cells := 0, slots := 0, locals := 0 }
set_option maxHeartbeats 4000000 in
set_option maxRecDepth 100000 in
theorem c_X8_spelt (l : Launch) (z0 : Int32) (z1 : Int32) (z2 : Int32) (z3 : Int32) (z4 : Int32) (z5 : Int32) (z6 : Int32)  : Met l yX8_spelt wsX8_spelt rm_X8_spelt (va_Pc [.int z0, .int z1, .int z2, .int z3, .int z4, .int z5, .int z6] (fun _ => True)) (vp_Sl (fun r => r = (f_X8_spelt z0 z1 z2 z3 z4 z5 z6))) 0 0 (fun _ => False) := by
  refine Met.ofW (cc := cX8_spelt) (maxL := 9) (ret := (some .long)) (by decide) rfl ?_
  intro p e s m args below meth c s₁ B hml hv
  obtain ⟨rfl, -⟩ := hv
  have hx := B.exec
  have hb := B.bytes
  have hr := B.returns
  have hts := atoms_spec (ws := wsX8_spelt) B.pre
  have hown : s.vm.findClass RX8 = some m.cls := findClass_of_methodNamed B.named
  have hlocks := B.notSynchronized
  have hl := lv_entry ([.int z0, .int z1, .int z2, .int z3, .int z4, .int z5, .int z6]) (n := 9) (Nat.le_of_ble_eq_true rfl)
  rw [lg_entry_eq]
  generalize (lg_sl ([.int z0, .int z1, .int z2, .int z3, .int z4, .int z5, .int z6]) ++ List.replicate (9 - (lg_sl ([.int z0, .int z1, .int z2, .int z3, .int z4, .int z5, .int z6])).length) Slot.unset).toArray = ls at hl ⊢
  have hl : lv_has ls 9 [(0, .int z0), (1, .int z1), (2, .int z2), (3, .int z3), (4, .int z4), (5, .int z5), (6, .int z6)] := hl
  refine lv_lconst (v := 0) hx hb dX8_spelt_0 rfl ?_
  refine lv_lstore (lv' := [(7, .long (0 : Int64)), (0, .int z0), (1, .int z1), (2, .int z2), (3, .int z3), (4, .int z4), (5, .int z5), (6, .int z6)]) hx hb dX8_spelt_1 hl (by decide) rfl (fun ls hl => ?_)
  refine lv_lload hx hb dX8_spelt_3 (lv_at hl 0 rfl) ?_
  refine lv_ldc2 (v := (27)) hx hb hown (hts (.constantLong RX8 78 (27)) (by decide +kernel)) dX8_spelt_5 ?_
  refine lv_lmul hx hb dX8_spelt_8 ?_
  refine lv_iload_n hx hb dX8_spelt_9 rfl (lv_at hl 1 rfl) ?_
  refine mv_phi (v := (if z0 = 0 then nI 0 else ((z0 - (nI 97)) + (nI 1)))) (pcj := 23) (ls := ls) (rest' := [.long ((0 : Int64) * (27 : Int64))]) ?_ (fun J_13 => ?_)
  · refine lv_i2l hx hb dX8_spelt_23 rfl ?_
    refine lv_ladd hx hb dX8_spelt_24 ?_
    refine lv_lstore (lv' := [(7, .long (((0 : Int64) * (27 : Int64)) + ((if z0 = 0 then nI 0 else ((z0 - (nI 97)) + (nI 1))).toInt64))), (0, .int z0), (1, .int z1), (2, .int z2), (3, .int z3), (4, .int z4), (5, .int z5), (6, .int z6)]) hx hb dX8_spelt_25 hl (by decide) rfl (fun ls hl => ?_)
    refine lv_iload_n hx hb dX8_spelt_27 rfl (lv_at hl 2 rfl) ?_
    refine mv_phil (v := (if z1 = 0 then (((0 : Int64) * (27 : Int64)) + ((if z0 = 0 then nI 0 else ((z0 - (nI 97)) + (nI 1))).toInt64)) else (((((((0 : Int64) * (27 : Int64)) + ((if z0 = 0 then nI 0 else ((z0 - (nI 97)) + (nI 1))).toInt64)) * (27 : Int64)) + z1.toInt64) - (97 : Int64)) + (1 : Int64)))) (pcj := 51) (ls := ls) (rest' := []) ?_ (fun J_11 => ?_)
    · refine lv_lstore (lv' := [(7, .long (if z1 = 0 then (((0 : Int64) * (27 : Int64)) + ((if z0 = 0 then nI 0 else ((z0 - (nI 97)) + (nI 1))).toInt64)) else (((((((0 : Int64) * (27 : Int64)) + ((if z0 = 0 then nI 0 else ((z0 - (nI 97)) + (nI 1))).toInt64)) * (27 : Int64)) + z1.toInt64) - (97 : Int64)) + (1 : Int64)))), (0, .int z0), (1, .int z1), (2, .int z2), (3, .int z3), (4, .int z4), (5, .int z5), (6, .int z6)]) hx hb dX8_spelt_51 hl (by decide) rfl (fun ls hl => ?_)
      refine lv_iload_n hx hb dX8_spelt_53 rfl (lv_at hl 3 rfl) ?_
      refine mv_phil (v := (if z2 = 0 then (if z1 = 0 then (((0 : Int64) * (27 : Int64)) + ((if z0 = 0 then nI 0 else ((z0 - (nI 97)) + (nI 1))).toInt64)) else (((((((0 : Int64) * (27 : Int64)) + ((if z0 = 0 then nI 0 else ((z0 - (nI 97)) + (nI 1))).toInt64)) * (27 : Int64)) + z1.toInt64) - (97 : Int64)) + (1 : Int64))) else (((((if z1 = 0 then (((0 : Int64) * (27 : Int64)) + ((if z0 = 0 then nI 0 else ((z0 - (nI 97)) + (nI 1))).toInt64)) else (((((((0 : Int64) * (27 : Int64)) + ((if z0 = 0 then nI 0 else ((z0 - (nI 97)) + (nI 1))).toInt64)) * (27 : Int64)) + z1.toInt64) - (97 : Int64)) + (1 : Int64))) * (27 : Int64)) + z2.toInt64) - (97 : Int64)) + (1 : Int64)))) (pcj := 77) (ls := ls) (rest' := []) ?_ (fun J_9 => ?_)
      · refine lv_lstore (lv' := [(7, .long (if z2 = 0 then (if z1 = 0 then (((0 : Int64) * (27 : Int64)) + ((if z0 = 0 then nI 0 else ((z0 - (nI 97)) + (nI 1))).toInt64)) else (((((((0 : Int64) * (27 : Int64)) + ((if z0 = 0 then nI 0 else ((z0 - (nI 97)) + (nI 1))).toInt64)) * (27 : Int64)) + z1.toInt64) - (97 : Int64)) + (1 : Int64))) else (((((if z1 = 0 then (((0 : Int64) * (27 : Int64)) + ((if z0 = 0 then nI 0 else ((z0 - (nI 97)) + (nI 1))).toInt64)) else (((((((0 : Int64) * (27 : Int64)) + ((if z0 = 0 then nI 0 else ((z0 - (nI 97)) + (nI 1))).toInt64)) * (27 : Int64)) + z1.toInt64) - (97 : Int64)) + (1 : Int64))) * (27 : Int64)) + z2.toInt64) - (97 : Int64)) + (1 : Int64)))), (0, .int z0), (1, .int z1), (2, .int z2), (3, .int z3), (4, .int z4), (5, .int z5), (6, .int z6)]) hx hb dX8_spelt_77 hl (by decide) rfl (fun ls hl => ?_)
        refine lv_iload_n hx hb dX8_spelt_79 rfl (lv_at hl 4 rfl) ?_
        refine mv_phil (v := (if z3 = 0 then (if z2 = 0 then (if z1 = 0 then (((0 : Int64) * (27 : Int64)) + ((if z0 = 0 then nI 0 else ((z0 - (nI 97)) + (nI 1))).toInt64)) else (((((((0 : Int64) * (27 : Int64)) + ((if z0 = 0 then nI 0 else ((z0 - (nI 97)) + (nI 1))).toInt64)) * (27 : Int64)) + z1.toInt64) - (97 : Int64)) + (1 : Int64))) else (((((if z1 = 0 then (((0 : Int64) * (27 : Int64)) + ((if z0 = 0 then nI 0 else ((z0 - (nI 97)) + (nI 1))).toInt64)) else (((((((0 : Int64) * (27 : Int64)) + ((if z0 = 0 then nI 0 else ((z0 - (nI 97)) + (nI 1))).toInt64)) * (27 : Int64)) + z1.toInt64) - (97 : Int64)) + (1 : Int64))) * (27 : Int64)) + z2.toInt64) - (97 : Int64)) + (1 : Int64))) else (((((if z2 = 0 then (if z1 = 0 then (((0 : Int64) * (27 : Int64)) + ((if z0 = 0 then nI 0 else ((z0 - (nI 97)) + (nI 1))).toInt64)) else (((((((0 : Int64) * (27 : Int64)) + ((if z0 = 0 then nI 0 else ((z0 - (nI 97)) + (nI 1))).toInt64)) * (27 : Int64)) + z1.toInt64) - (97 : Int64)) + (1 : Int64))) else (((((if z1 = 0 then (((0 : Int64) * (27 : Int64)) + ((if z0 = 0 then nI 0 else ((z0 - (nI 97)) + (nI 1))).toInt64)) else (((((((0 : Int64) * (27 : Int64)) + ((if z0 = 0 then nI 0 else ((z0 - (nI 97)) + (nI 1))).toInt64)) * (27 : Int64)) + z1.toInt64) - (97 : Int64)) + (1 : Int64))) * (27 : Int64)) + z2.toInt64) - (97 : Int64)) + (1 : Int64))) * (27 : Int64)) + z3.toInt64) - (97 : Int64)) + (1 : Int64)))) (pcj := 103) (ls := ls) (rest' := []) ?_ (fun J_7 => ?_)
        · refine lv_lstore (lv' := [(7, .long (if z3 = 0 then (if z2 = 0 then (if z1 = 0 then (((0 : Int64) * (27 : Int64)) + ((if z0 = 0 then nI 0 else ((z0 - (nI 97)) + (nI 1))).toInt64)) else (((((((0 : Int64) * (27 : Int64)) + ((if z0 = 0 then nI 0 else ((z0 - (nI 97)) + (nI 1))).toInt64)) * (27 : Int64)) + z1.toInt64) - (97 : Int64)) + (1 : Int64))) else (((((if z1 = 0 then (((0 : Int64) * (27 : Int64)) + ((if z0 = 0 then nI 0 else ((z0 - (nI 97)) + (nI 1))).toInt64)) else (((((((0 : Int64) * (27 : Int64)) + ((if z0 = 0 then nI 0 else ((z0 - (nI 97)) + (nI 1))).toInt64)) * (27 : Int64)) + z1.toInt64) - (97 : Int64)) + (1 : Int64))) * (27 : Int64)) + z2.toInt64) - (97 : Int64)) + (1 : Int64))) else (((((if z2 = 0 then (if z1 = 0 then (((0 : Int64) * (27 : Int64)) + ((if z0 = 0 then nI 0 else ((z0 - (nI 97)) + (nI 1))).toInt64)) else (((((((0 : Int64) * (27 : Int64)) + ((if z0 = 0 then nI 0 else ((z0 - (nI 97)) + (nI 1))).toInt64)) * (27 : Int64)) + z1.toInt64) - (97 : Int64)) + (1 : Int64))) else (((((if z1 = 0 then (((0 : Int64) * (27 : Int64)) + ((if z0 = 0 then nI 0 else ((z0 - (nI 97)) + (nI 1))).toInt64)) else (((((((0 : Int64) * (27 : Int64)) + ((if z0 = 0 then nI 0 else ((z0 - (nI 97)) + (nI 1))).toInt64)) * (27 : Int64)) + z1.toInt64) - (97 : Int64)) + (1 : Int64))) * (27 : Int64)) + z2.toInt64) - (97 : Int64)) + (1 : Int64))) * (27 : Int64)) + z3.toInt64) - (97 : Int64)) + (1 : Int64)))), (0, .int z0), (1, .int z1), (2, .int z2), (3, .int z3), (4, .int z4), (5, .int z5), (6, .int z6)]) hx hb dX8_spelt_103 hl (by decide) rfl (fun ls hl => ?_)
          refine lv_iload hx hb dX8_spelt_105 (lv_at hl 5 rfl) ?_
          refine mv_phil (v := (if z4 = 0 then (if z3 = 0 then (if z2 = 0 then (if z1 = 0 then (((0 : Int64) * (27 : Int64)) + ((if z0 = 0 then nI 0 else ((z0 - (nI 97)) + (nI 1))).toInt64)) else (((((((0 : Int64) * (27 : Int64)) + ((if z0 = 0 then nI 0 else ((z0 - (nI 97)) + (nI 1))).toInt64)) * (27 : Int64)) + z1.toInt64) - (97 : Int64)) + (1 : Int64))) else (((((if z1 = 0 then (((0 : Int64) * (27 : Int64)) + ((if z0 = 0 then nI 0 else ((z0 - (nI 97)) + (nI 1))).toInt64)) else (((((((0 : Int64) * (27 : Int64)) + ((if z0 = 0 then nI 0 else ((z0 - (nI 97)) + (nI 1))).toInt64)) * (27 : Int64)) + z1.toInt64) - (97 : Int64)) + (1 : Int64))) * (27 : Int64)) + z2.toInt64) - (97 : Int64)) + (1 : Int64))) else (((((if z2 = 0 then (if z1 = 0 then (((0 : Int64) * (27 : Int64)) + ((if z0 = 0 then nI 0 else ((z0 - (nI 97)) + (nI 1))).toInt64)) else (((((((0 : Int64) * (27 : Int64)) + ((if z0 = 0 then nI 0 else ((z0 - (nI 97)) + (nI 1))).toInt64)) * (27 : Int64)) + z1.toInt64) - (97 : Int64)) + (1 : Int64))) else (((((if z1 = 0 then (((0 : Int64) * (27 : Int64)) + ((if z0 = 0 then nI 0 else ((z0 - (nI 97)) + (nI 1))).toInt64)) else (((((((0 : Int64) * (27 : Int64)) + ((if z0 = 0 then nI 0 else ((z0 - (nI 97)) + (nI 1))).toInt64)) * (27 : Int64)) + z1.toInt64) - (97 : Int64)) + (1 : Int64))) * (27 : Int64)) + z2.toInt64) - (97 : Int64)) + (1 : Int64))) * (27 : Int64)) + z3.toInt64) - (97 : Int64)) + (1 : Int64))) else (((((if z3 = 0 then (if z2 = 0 then (if z1 = 0 then (((0 : Int64) * (27 : Int64)) + ((if z0 = 0 then nI 0 else ((z0 - (nI 97)) + (nI 1))).toInt64)) else (((((((0 : Int64) * (27 : Int64)) + ((if z0 = 0 then nI 0 else ((z0 - (nI 97)) + (nI 1))).toInt64)) * (27 : Int64)) + z1.toInt64) - (97 : Int64)) + (1 : Int64))) else (((((if z1 = 0 then (((0 : Int64) * (27 : Int64)) + ((if z0 = 0 then nI 0 else ((z0 - (nI 97)) + (nI 1))).toInt64)) else (((((((0 : Int64) * (27 : Int64)) + ((if z0 = 0 then nI 0 else ((z0 - (nI 97)) + (nI 1))).toInt64)) * (27 : Int64)) + z1.toInt64) - (97 : Int64)) + (1 : Int64))) * (27 : Int64)) + z2.toInt64) - (97 : Int64)) + (1 : Int64))) else (((((if z2 = 0 then (if z1 = 0 then (((0 : Int64) * (27 : Int64)) + ((if z0 = 0 then nI 0 else ((z0 - (nI 97)) + (nI 1))).toInt64)) else (((((((0 : Int64) * (27 : Int64)) + ((if z0 = 0 then nI 0 else ((z0 - (nI 97)) + (nI 1))).toInt64)) * (27 : Int64)) + z1.toInt64) - (97 : Int64)) + (1 : Int64))) else (((((if z1 = 0 then (((0 : Int64) * (27 : Int64)) + ((if z0 = 0 then nI 0 else ((z0 - (nI 97)) + (nI 1))).toInt64)) else (((((((0 : Int64) * (27 : Int64)) + ((if z0 = 0 then nI 0 else ((z0 - (nI 97)) + (nI 1))).toInt64)) * (27 : Int64)) + z1.toInt64) - (97 : Int64)) + (1 : Int64))) * (27 : Int64)) + z2.toInt64) - (97 : Int64)) + (1 : Int64))) * (27 : Int64)) + z3.toInt64) - (97 : Int64)) + (1 : Int64))) * (27 : Int64)) + z4.toInt64) - (97 : Int64)) + (1 : Int64)))) (pcj := 131) (ls := ls) (rest' := []) ?_ (fun J_5 => ?_)
          · refine lv_lstore (lv' := [(7, .long (if z4 = 0 then (if z3 = 0 then (if z2 = 0 then (if z1 = 0 then (((0 : Int64) * (27 : Int64)) + ((if z0 = 0 then nI 0 else ((z0 - (nI 97)) + (nI 1))).toInt64)) else (((((((0 : Int64) * (27 : Int64)) + ((if z0 = 0 then nI 0 else ((z0 - (nI 97)) + (nI 1))).toInt64)) * (27 : Int64)) + z1.toInt64) - (97 : Int64)) + (1 : Int64))) else (((((if z1 = 0 then (((0 : Int64) * (27 : Int64)) + ((if z0 = 0 then nI 0 else ((z0 - (nI 97)) + (nI 1))).toInt64)) else (((((((0 : Int64) * (27 : Int64)) + ((if z0 = 0 then nI 0 else ((z0 - (nI 97)) + (nI 1))).toInt64)) * (27 : Int64)) + z1.toInt64) - (97 : Int64)) + (1 : Int64))) * (27 : Int64)) + z2.toInt64) - (97 : Int64)) + (1 : Int64))) else (((((if z2 = 0 then (if z1 = 0 then (((0 : Int64) * (27 : Int64)) + ((if z0 = 0 then nI 0 else ((z0 - (nI 97)) + (nI 1))).toInt64)) else (((((((0 : Int64) * (27 : Int64)) + ((if z0 = 0 then nI 0 else ((z0 - (nI 97)) + (nI 1))).toInt64)) * (27 : Int64)) + z1.toInt64) - (97 : Int64)) + (1 : Int64))) else (((((if z1 = 0 then (((0 : Int64) * (27 : Int64)) + ((if z0 = 0 then nI 0 else ((z0 - (nI 97)) + (nI 1))).toInt64)) else (((((((0 : Int64) * (27 : Int64)) + ((if z0 = 0 then nI 0 else ((z0 - (nI 97)) + (nI 1))).toInt64)) * (27 : Int64)) + z1.toInt64) - (97 : Int64)) + (1 : Int64))) * (27 : Int64)) + z2.toInt64) - (97 : Int64)) + (1 : Int64))) * (27 : Int64)) + z3.toInt64) - (97 : Int64)) + (1 : Int64))) else (((((if z3 = 0 then (if z2 = 0 then (if z1 = 0 then (((0 : Int64) * (27 : Int64)) + ((if z0 = 0 then nI 0 else ((z0 - (nI 97)) + (nI 1))).toInt64)) else (((((((0 : Int64) * (27 : Int64)) + ((if z0 = 0 then nI 0 else ((z0 - (nI 97)) + (nI 1))).toInt64)) * (27 : Int64)) + z1.toInt64) - (97 : Int64)) + (1 : Int64))) else (((((if z1 = 0 then (((0 : Int64) * (27 : Int64)) + ((if z0 = 0 then nI 0 else ((z0 - (nI 97)) + (nI 1))).toInt64)) else (((((((0 : Int64) * (27 : Int64)) + ((if z0 = 0 then nI 0 else ((z0 - (nI 97)) + (nI 1))).toInt64)) * (27 : Int64)) + z1.toInt64) - (97 : Int64)) + (1 : Int64))) * (27 : Int64)) + z2.toInt64) - (97 : Int64)) + (1 : Int64))) else (((((if z2 = 0 then (if z1 = 0 then (((0 : Int64) * (27 : Int64)) + ((if z0 = 0 then nI 0 else ((z0 - (nI 97)) + (nI 1))).toInt64)) else (((((((0 : Int64) * (27 : Int64)) + ((if z0 = 0 then nI 0 else ((z0 - (nI 97)) + (nI 1))).toInt64)) * (27 : Int64)) + z1.toInt64) - (97 : Int64)) + (1 : Int64))) else (((((if z1 = 0 then (((0 : Int64) * (27 : Int64)) + ((if z0 = 0 then nI 0 else ((z0 - (nI 97)) + (nI 1))).toInt64)) else (((((((0 : Int64) * (27 : Int64)) + ((if z0 = 0 then nI 0 else ((z0 - (nI 97)) + (nI 1))).toInt64)) * (27 : Int64)) + z1.toInt64) - (97 : Int64)) + (1 : Int64))) * (27 : Int64)) + z2.toInt64) - (97 : Int64)) + (1 : Int64))) * (27 : Int64)) + z3.toInt64) - (97 : Int64)) + (1 : Int64))) * (27 : Int64)) + z4.toInt64) - (97 : Int64)) + (1 : Int64)))), (0, .int z0), (1, .int z1), (2, .int z2), (3, .int z3), (4, .int z4), (5, .int z5), (6, .int z6)]) hx hb dX8_spelt_131 hl (by decide) rfl (fun ls hl => ?_)
            refine lv_iload hx hb dX8_spelt_133 (lv_at hl 6 rfl) ?_
            refine mv_phil (v := (if z5 = 0 then (if z4 = 0 then (if z3 = 0 then (if z2 = 0 then (if z1 = 0 then (((0 : Int64) * (27 : Int64)) + ((if z0 = 0 then nI 0 else ((z0 - (nI 97)) + (nI 1))).toInt64)) else (((((((0 : Int64) * (27 : Int64)) + ((if z0 = 0 then nI 0 else ((z0 - (nI 97)) + (nI 1))).toInt64)) * (27 : Int64)) + z1.toInt64) - (97 : Int64)) + (1 : Int64))) else (((((if z1 = 0 then (((0 : Int64) * (27 : Int64)) + ((if z0 = 0 then nI 0 else ((z0 - (nI 97)) + (nI 1))).toInt64)) else (((((((0 : Int64) * (27 : Int64)) + ((if z0 = 0 then nI 0 else ((z0 - (nI 97)) + (nI 1))).toInt64)) * (27 : Int64)) + z1.toInt64) - (97 : Int64)) + (1 : Int64))) * (27 : Int64)) + z2.toInt64) - (97 : Int64)) + (1 : Int64))) else (((((if z2 = 0 then (if z1 = 0 then (((0 : Int64) * (27 : Int64)) + ((if z0 = 0 then nI 0 else ((z0 - (nI 97)) + (nI 1))).toInt64)) else (((((((0 : Int64) * (27 : Int64)) + ((if z0 = 0 then nI 0 else ((z0 - (nI 97)) + (nI 1))).toInt64)) * (27 : Int64)) + z1.toInt64) - (97 : Int64)) + (1 : Int64))) else (((((if z1 = 0 then (((0 : Int64) * (27 : Int64)) + ((if z0 = 0 then nI 0 else ((z0 - (nI 97)) + (nI 1))).toInt64)) else (((((((0 : Int64) * (27 : Int64)) + ((if z0 = 0 then nI 0 else ((z0 - (nI 97)) + (nI 1))).toInt64)) * (27 : Int64)) + z1.toInt64) - (97 : Int64)) + (1 : Int64))) * (27 : Int64)) + z2.toInt64) - (97 : Int64)) + (1 : Int64))) * (27 : Int64)) + z3.toInt64) - (97 : Int64)) + (1 : Int64))) else (((((if z3 = 0 then (if z2 = 0 then (if z1 = 0 then (((0 : Int64) * (27 : Int64)) + ((if z0 = 0 then nI 0 else ((z0 - (nI 97)) + (nI 1))).toInt64)) else (((((((0 : Int64) * (27 : Int64)) + ((if z0 = 0 then nI 0 else ((z0 - (nI 97)) + (nI 1))).toInt64)) * (27 : Int64)) + z1.toInt64) - (97 : Int64)) + (1 : Int64))) else (((((if z1 = 0 then (((0 : Int64) * (27 : Int64)) + ((if z0 = 0 then nI 0 else ((z0 - (nI 97)) + (nI 1))).toInt64)) else (((((((0 : Int64) * (27 : Int64)) + ((if z0 = 0 then nI 0 else ((z0 - (nI 97)) + (nI 1))).toInt64)) * (27 : Int64)) + z1.toInt64) - (97 : Int64)) + (1 : Int64))) * (27 : Int64)) + z2.toInt64) - (97 : Int64)) + (1 : Int64))) else (((((if z2 = 0 then (if z1 = 0 then (((0 : Int64) * (27 : Int64)) + ((if z0 = 0 then nI 0 else ((z0 - (nI 97)) + (nI 1))).toInt64)) else (((((((0 : Int64) * (27 : Int64)) + ((if z0 = 0 then nI 0 else ((z0 - (nI 97)) + (nI 1))).toInt64)) * (27 : Int64)) + z1.toInt64) - (97 : Int64)) + (1 : Int64))) else (((((if z1 = 0 then (((0 : Int64) * (27 : Int64)) + ((if z0 = 0 then nI 0 else ((z0 - (nI 97)) + (nI 1))).toInt64)) else (((((((0 : Int64) * (27 : Int64)) + ((if z0 = 0 then nI 0 else ((z0 - (nI 97)) + (nI 1))).toInt64)) * (27 : Int64)) + z1.toInt64) - (97 : Int64)) + (1 : Int64))) * (27 : Int64)) + z2.toInt64) - (97 : Int64)) + (1 : Int64))) * (27 : Int64)) + z3.toInt64) - (97 : Int64)) + (1 : Int64))) * (27 : Int64)) + z4.toInt64) - (97 : Int64)) + (1 : Int64))) else (((((if z4 = 0 then (if z3 = 0 then (if z2 = 0 then (if z1 = 0 then (((0 : Int64) * (27 : Int64)) + ((if z0 = 0 then nI 0 else ((z0 - (nI 97)) + (nI 1))).toInt64)) else (((((((0 : Int64) * (27 : Int64)) + ((if z0 = 0 then nI 0 else ((z0 - (nI 97)) + (nI 1))).toInt64)) * (27 : Int64)) + z1.toInt64) - (97 : Int64)) + (1 : Int64))) else (((((if z1 = 0 then (((0 : Int64) * (27 : Int64)) + ((if z0 = 0 then nI 0 else ((z0 - (nI 97)) + (nI 1))).toInt64)) else (((((((0 : Int64) * (27 : Int64)) + ((if z0 = 0 then nI 0 else ((z0 - (nI 97)) + (nI 1))).toInt64)) * (27 : Int64)) + z1.toInt64) - (97 : Int64)) + (1 : Int64))) * (27 : Int64)) + z2.toInt64) - (97 : Int64)) + (1 : Int64))) else (((((if z2 = 0 then (if z1 = 0 then (((0 : Int64) * (27 : Int64)) + ((if z0 = 0 then nI 0 else ((z0 - (nI 97)) + (nI 1))).toInt64)) else (((((((0 : Int64) * (27 : Int64)) + ((if z0 = 0 then nI 0 else ((z0 - (nI 97)) + (nI 1))).toInt64)) * (27 : Int64)) + z1.toInt64) - (97 : Int64)) + (1 : Int64))) else (((((if z1 = 0 then (((0 : Int64) * (27 : Int64)) + ((if z0 = 0 then nI 0 else ((z0 - (nI 97)) + (nI 1))).toInt64)) else (((((((0 : Int64) * (27 : Int64)) + ((if z0 = 0 then nI 0 else ((z0 - (nI 97)) + (nI 1))).toInt64)) * (27 : Int64)) + z1.toInt64) - (97 : Int64)) + (1 : Int64))) * (27 : Int64)) + z2.toInt64) - (97 : Int64)) + (1 : Int64))) * (27 : Int64)) + z3.toInt64) - (97 : Int64)) + (1 : Int64))) else (((((if z3 = 0 then (if z2 = 0 then (if z1 = 0 then (((0 : Int64) * (27 : Int64)) + ((if z0 = 0 then nI 0 else ((z0 - (nI 97)) + (nI 1))).toInt64)) else (((((((0 : Int64) * (27 : Int64)) + ((if z0 = 0 then nI 0 else ((z0 - (nI 97)) + (nI 1))).toInt64)) * (27 : Int64)) + z1.toInt64) - (97 : Int64)) + (1 : Int64))) else (((((if z1 = 0 then (((0 : Int64) * (27 : Int64)) + ((if z0 = 0 then nI 0 else ((z0 - (nI 97)) + (nI 1))).toInt64)) else (((((((0 : Int64) * (27 : Int64)) + ((if z0 = 0 then nI 0 else ((z0 - (nI 97)) + (nI 1))).toInt64)) * (27 : Int64)) + z1.toInt64) - (97 : Int64)) + (1 : Int64))) * (27 : Int64)) + z2.toInt64) - (97 : Int64)) + (1 : Int64))) else (((((if z2 = 0 then (if z1 = 0 then (((0 : Int64) * (27 : Int64)) + ((if z0 = 0 then nI 0 else ((z0 - (nI 97)) + (nI 1))).toInt64)) else (((((((0 : Int64) * (27 : Int64)) + ((if z0 = 0 then nI 0 else ((z0 - (nI 97)) + (nI 1))).toInt64)) * (27 : Int64)) + z1.toInt64) - (97 : Int64)) + (1 : Int64))) else (((((if z1 = 0 then (((0 : Int64) * (27 : Int64)) + ((if z0 = 0 then nI 0 else ((z0 - (nI 97)) + (nI 1))).toInt64)) else (((((((0 : Int64) * (27 : Int64)) + ((if z0 = 0 then nI 0 else ((z0 - (nI 97)) + (nI 1))).toInt64)) * (27 : Int64)) + z1.toInt64) - (97 : Int64)) + (1 : Int64))) * (27 : Int64)) + z2.toInt64) - (97 : Int64)) + (1 : Int64))) * (27 : Int64)) + z3.toInt64) - (97 : Int64)) + (1 : Int64))) * (27 : Int64)) + z4.toInt64) - (97 : Int64)) + (1 : Int64))) * (27 : Int64)) + z5.toInt64) - (97 : Int64)) + (1 : Int64)))) (pcj := 159) (ls := ls) (rest' := []) ?_ (fun J_3 => ?_)
            · refine lv_lstore (lv' := [(7, .long (if z5 = 0 then (if z4 = 0 then (if z3 = 0 then (if z2 = 0 then (if z1 = 0 then (((0 : Int64) * (27 : Int64)) + ((if z0 = 0 then nI 0 else ((z0 - (nI 97)) + (nI 1))).toInt64)) else (((((((0 : Int64) * (27 : Int64)) + ((if z0 = 0 then nI 0 else ((z0 - (nI 97)) + (nI 1))).toInt64)) * (27 : Int64)) + z1.toInt64) - (97 : Int64)) + (1 : Int64))) else (((((if z1 = 0 then (((0 : Int64) * (27 : Int64)) + ((if z0 = 0 then nI 0 else ((z0 - (nI 97)) + (nI 1))).toInt64)) else (((((((0 : Int64) * (27 : Int64)) + ((if z0 = 0 then nI 0 else ((z0 - (nI 97)) + (nI 1))).toInt64)) * (27 : Int64)) + z1.toInt64) - (97 : Int64)) + (1 : Int64))) * (27 : Int64)) + z2.toInt64) - (97 : Int64)) + (1 : Int64))) else (((((if z2 = 0 then (if z1 = 0 then (((0 : Int64) * (27 : Int64)) + ((if z0 = 0 then nI 0 else ((z0 - (nI 97)) + (nI 1))).toInt64)) else (((((((0 : Int64) * (27 : Int64)) + ((if z0 = 0 then nI 0 else ((z0 - (nI 97)) + (nI 1))).toInt64)) * (27 : Int64)) + z1.toInt64) - (97 : Int64)) + (1 : Int64))) else (((((if z1 = 0 then (((0 : Int64) * (27 : Int64)) + ((if z0 = 0 then nI 0 else ((z0 - (nI 97)) + (nI 1))).toInt64)) else (((((((0 : Int64) * (27 : Int64)) + ((if z0 = 0 then nI 0 else ((z0 - (nI 97)) + (nI 1))).toInt64)) * (27 : Int64)) + z1.toInt64) - (97 : Int64)) + (1 : Int64))) * (27 : Int64)) + z2.toInt64) - (97 : Int64)) + (1 : Int64))) * (27 : Int64)) + z3.toInt64) - (97 : Int64)) + (1 : Int64))) else (((((if z3 = 0 then (if z2 = 0 then (if z1 = 0 then (((0 : Int64) * (27 : Int64)) + ((if z0 = 0 then nI 0 else ((z0 - (nI 97)) + (nI 1))).toInt64)) else (((((((0 : Int64) * (27 : Int64)) + ((if z0 = 0 then nI 0 else ((z0 - (nI 97)) + (nI 1))).toInt64)) * (27 : Int64)) + z1.toInt64) - (97 : Int64)) + (1 : Int64))) else (((((if z1 = 0 then (((0 : Int64) * (27 : Int64)) + ((if z0 = 0 then nI 0 else ((z0 - (nI 97)) + (nI 1))).toInt64)) else (((((((0 : Int64) * (27 : Int64)) + ((if z0 = 0 then nI 0 else ((z0 - (nI 97)) + (nI 1))).toInt64)) * (27 : Int64)) + z1.toInt64) - (97 : Int64)) + (1 : Int64))) * (27 : Int64)) + z2.toInt64) - (97 : Int64)) + (1 : Int64))) else (((((if z2 = 0 then (if z1 = 0 then (((0 : Int64) * (27 : Int64)) + ((if z0 = 0 then nI 0 else ((z0 - (nI 97)) + (nI 1))).toInt64)) else (((((((0 : Int64) * (27 : Int64)) + ((if z0 = 0 then nI 0 else ((z0 - (nI 97)) + (nI 1))).toInt64)) * (27 : Int64)) + z1.toInt64) - (97 : Int64)) + (1 : Int64))) else (((((if z1 = 0 then (((0 : Int64) * (27 : Int64)) + ((if z0 = 0 then nI 0 else ((z0 - (nI 97)) + (nI 1))).toInt64)) else (((((((0 : Int64) * (27 : Int64)) + ((if z0 = 0 then nI 0 else ((z0 - (nI 97)) + (nI 1))).toInt64)) * (27 : Int64)) + z1.toInt64) - (97 : Int64)) + (1 : Int64))) * (27 : Int64)) + z2.toInt64) - (97 : Int64)) + (1 : Int64))) * (27 : Int64)) + z3.toInt64) - (97 : Int64)) + (1 : Int64))) * (27 : Int64)) + z4.toInt64) - (97 : Int64)) + (1 : Int64))) else (((((if z4 = 0 then (if z3 = 0 then (if z2 = 0 then (if z1 = 0 then (((0 : Int64) * (27 : Int64)) + ((if z0 = 0 then nI 0 else ((z0 - (nI 97)) + (nI 1))).toInt64)) else (((((((0 : Int64) * (27 : Int64)) + ((if z0 = 0 then nI 0 else ((z0 - (nI 97)) + (nI 1))).toInt64)) * (27 : Int64)) + z1.toInt64) - (97 : Int64)) + (1 : Int64))) else (((((if z1 = 0 then (((0 : Int64) * (27 : Int64)) + ((if z0 = 0 then nI 0 else ((z0 - (nI 97)) + (nI 1))).toInt64)) else (((((((0 : Int64) * (27 : Int64)) + ((if z0 = 0 then nI 0 else ((z0 - (nI 97)) + (nI 1))).toInt64)) * (27 : Int64)) + z1.toInt64) - (97 : Int64)) + (1 : Int64))) * (27 : Int64)) + z2.toInt64) - (97 : Int64)) + (1 : Int64))) else (((((if z2 = 0 then (if z1 = 0 then (((0 : Int64) * (27 : Int64)) + ((if z0 = 0 then nI 0 else ((z0 - (nI 97)) + (nI 1))).toInt64)) else (((((((0 : Int64) * (27 : Int64)) + ((if z0 = 0 then nI 0 else ((z0 - (nI 97)) + (nI 1))).toInt64)) * (27 : Int64)) + z1.toInt64) - (97 : Int64)) + (1 : Int64))) else (((((if z1 = 0 then (((0 : Int64) * (27 : Int64)) + ((if z0 = 0 then nI 0 else ((z0 - (nI 97)) + (nI 1))).toInt64)) else (((((((0 : Int64) * (27 : Int64)) + ((if z0 = 0 then nI 0 else ((z0 - (nI 97)) + (nI 1))).toInt64)) * (27 : Int64)) + z1.toInt64) - (97 : Int64)) + (1 : Int64))) * (27 : Int64)) + z2.toInt64) - (97 : Int64)) + (1 : Int64))) * (27 : Int64)) + z3.toInt64) - (97 : Int64)) + (1 : Int64))) else (((((if z3 = 0 then (if z2 = 0 then (if z1 = 0 then (((0 : Int64) * (27 : Int64)) + ((if z0 = 0 then nI 0 else ((z0 - (nI 97)) + (nI 1))).toInt64)) else (((((((0 : Int64) * (27 : Int64)) + ((if z0 = 0 then nI 0 else ((z0 - (nI 97)) + (nI 1))).toInt64)) * (27 : Int64)) + z1.toInt64) - (97 : Int64)) + (1 : Int64))) else (((((if z1 = 0 then (((0 : Int64) * (27 : Int64)) + ((if z0 = 0 then nI 0 else ((z0 - (nI 97)) + (nI 1))).toInt64)) else (((((((0 : Int64) * (27 : Int64)) + ((if z0 = 0 then nI 0 else ((z0 - (nI 97)) + (nI 1))).toInt64)) * (27 : Int64)) + z1.toInt64) - (97 : Int64)) + (1 : Int64))) * (27 : Int64)) + z2.toInt64) - (97 : Int64)) + (1 : Int64))) else (((((if z2 = 0 then (if z1 = 0 then (((0 : Int64) * (27 : Int64)) + ((if z0 = 0 then nI 0 else ((z0 - (nI 97)) + (nI 1))).toInt64)) else (((((((0 : Int64) * (27 : Int64)) + ((if z0 = 0 then nI 0 else ((z0 - (nI 97)) + (nI 1))).toInt64)) * (27 : Int64)) + z1.toInt64) - (97 : Int64)) + (1 : Int64))) else (((((if z1 = 0 then (((0 : Int64) * (27 : Int64)) + ((if z0 = 0 then nI 0 else ((z0 - (nI 97)) + (nI 1))).toInt64)) else (((((((0 : Int64) * (27 : Int64)) + ((if z0 = 0 then nI 0 else ((z0 - (nI 97)) + (nI 1))).toInt64)) * (27 : Int64)) + z1.toInt64) - (97 : Int64)) + (1 : Int64))) * (27 : Int64)) + z2.toInt64) - (97 : Int64)) + (1 : Int64))) * (27 : Int64)) + z3.toInt64) - (97 : Int64)) + (1 : Int64))) * (27 : Int64)) + z4.toInt64) - (97 : Int64)) + (1 : Int64))) * (27 : Int64)) + z5.toInt64) - (97 : Int64)) + (1 : Int64)))), (0, .int z0), (1, .int z1), (2, .int z2), (3, .int z3), (4, .int z4), (5, .int z5), (6, .int z6)]) hx hb dX8_spelt_159 hl (by decide) rfl (fun ls hl => ?_)
              refine lv_iload hx hb dX8_spelt_161 (lv_at hl 7 rfl) ?_
              refine mv_phil (v := (if z6 = 0 then (if z5 = 0 then (if z4 = 0 then (if z3 = 0 then (if z2 = 0 then (if z1 = 0 then (((0 : Int64) * (27 : Int64)) + ((if z0 = 0 then nI 0 else ((z0 - (nI 97)) + (nI 1))).toInt64)) else (((((((0 : Int64) * (27 : Int64)) + ((if z0 = 0 then nI 0 else ((z0 - (nI 97)) + (nI 1))).toInt64)) * (27 : Int64)) + z1.toInt64) - (97 : Int64)) + (1 : Int64))) else (((((if z1 = 0 then (((0 : Int64) * (27 : Int64)) + ((if z0 = 0 then nI 0 else ((z0 - (nI 97)) + (nI 1))).toInt64)) else (((((((0 : Int64) * (27 : Int64)) + ((if z0 = 0 then nI 0 else ((z0 - (nI 97)) + (nI 1))).toInt64)) * (27 : Int64)) + z1.toInt64) - (97 : Int64)) + (1 : Int64))) * (27 : Int64)) + z2.toInt64) - (97 : Int64)) + (1 : Int64))) else (((((if z2 = 0 then (if z1 = 0 then (((0 : Int64) * (27 : Int64)) + ((if z0 = 0 then nI 0 else ((z0 - (nI 97)) + (nI 1))).toInt64)) else (((((((0 : Int64) * (27 : Int64)) + ((if z0 = 0 then nI 0 else ((z0 - (nI 97)) + (nI 1))).toInt64)) * (27 : Int64)) + z1.toInt64) - (97 : Int64)) + (1 : Int64))) else (((((if z1 = 0 then (((0 : Int64) * (27 : Int64)) + ((if z0 = 0 then nI 0 else ((z0 - (nI 97)) + (nI 1))).toInt64)) else (((((((0 : Int64) * (27 : Int64)) + ((if z0 = 0 then nI 0 else ((z0 - (nI 97)) + (nI 1))).toInt64)) * (27 : Int64)) + z1.toInt64) - (97 : Int64)) + (1 : Int64))) * (27 : Int64)) + z2.toInt64) - (97 : Int64)) + (1 : Int64))) * (27 : Int64)) + z3.toInt64) - (97 : Int64)) + (1 : Int64))) else (((((if z3 = 0 then (if z2 = 0 then (if z1 = 0 then (((0 : Int64) * (27 : Int64)) + ((if z0 = 0 then nI 0 else ((z0 - (nI 97)) + (nI 1))).toInt64)) else (((((((0 : Int64) * (27 : Int64)) + ((if z0 = 0 then nI 0 else ((z0 - (nI 97)) + (nI 1))).toInt64)) * (27 : Int64)) + z1.toInt64) - (97 : Int64)) + (1 : Int64))) else (((((if z1 = 0 then (((0 : Int64) * (27 : Int64)) + ((if z0 = 0 then nI 0 else ((z0 - (nI 97)) + (nI 1))).toInt64)) else (((((((0 : Int64) * (27 : Int64)) + ((if z0 = 0 then nI 0 else ((z0 - (nI 97)) + (nI 1))).toInt64)) * (27 : Int64)) + z1.toInt64) - (97 : Int64)) + (1 : Int64))) * (27 : Int64)) + z2.toInt64) - (97 : Int64)) + (1 : Int64))) else (((((if z2 = 0 then (if z1 = 0 then (((0 : Int64) * (27 : Int64)) + ((if z0 = 0 then nI 0 else ((z0 - (nI 97)) + (nI 1))).toInt64)) else (((((((0 : Int64) * (27 : Int64)) + ((if z0 = 0 then nI 0 else ((z0 - (nI 97)) + (nI 1))).toInt64)) * (27 : Int64)) + z1.toInt64) - (97 : Int64)) + (1 : Int64))) else (((((if z1 = 0 then (((0 : Int64) * (27 : Int64)) + ((if z0 = 0 then nI 0 else ((z0 - (nI 97)) + (nI 1))).toInt64)) else (((((((0 : Int64) * (27 : Int64)) + ((if z0 = 0 then nI 0 else ((z0 - (nI 97)) + (nI 1))).toInt64)) * (27 : Int64)) + z1.toInt64) - (97 : Int64)) + (1 : Int64))) * (27 : Int64)) + z2.toInt64) - (97 : Int64)) + (1 : Int64))) * (27 : Int64)) + z3.toInt64) - (97 : Int64)) + (1 : Int64))) * (27 : Int64)) + z4.toInt64) - (97 : Int64)) + (1 : Int64))) else (((((if z4 = 0 then (if z3 = 0 then (if z2 = 0 then (if z1 = 0 then (((0 : Int64) * (27 : Int64)) + ((if z0 = 0 then nI 0 else ((z0 - (nI 97)) + (nI 1))).toInt64)) else (((((((0 : Int64) * (27 : Int64)) + ((if z0 = 0 then nI 0 else ((z0 - (nI 97)) + (nI 1))).toInt64)) * (27 : Int64)) + z1.toInt64) - (97 : Int64)) + (1 : Int64))) else (((((if z1 = 0 then (((0 : Int64) * (27 : Int64)) + ((if z0 = 0 then nI 0 else ((z0 - (nI 97)) + (nI 1))).toInt64)) else (((((((0 : Int64) * (27 : Int64)) + ((if z0 = 0 then nI 0 else ((z0 - (nI 97)) + (nI 1))).toInt64)) * (27 : Int64)) + z1.toInt64) - (97 : Int64)) + (1 : Int64))) * (27 : Int64)) + z2.toInt64) - (97 : Int64)) + (1 : Int64))) else (((((if z2 = 0 then (if z1 = 0 then (((0 : Int64) * (27 : Int64)) + ((if z0 = 0 then nI 0 else ((z0 - (nI 97)) + (nI 1))).toInt64)) else (((((((0 : Int64) * (27 : Int64)) + ((if z0 = 0 then nI 0 else ((z0 - (nI 97)) + (nI 1))).toInt64)) * (27 : Int64)) + z1.toInt64) - (97 : Int64)) + (1 : Int64))) else (((((if z1 = 0 then (((0 : Int64) * (27 : Int64)) + ((if z0 = 0 then nI 0 else ((z0 - (nI 97)) + (nI 1))).toInt64)) else (((((((0 : Int64) * (27 : Int64)) + ((if z0 = 0 then nI 0 else ((z0 - (nI 97)) + (nI 1))).toInt64)) * (27 : Int64)) + z1.toInt64) - (97 : Int64)) + (1 : Int64))) * (27 : Int64)) + z2.toInt64) - (97 : Int64)) + (1 : Int64))) * (27 : Int64)) + z3.toInt64) - (97 : Int64)) + (1 : Int64))) else (((((if z3 = 0 then (if z2 = 0 then (if z1 = 0 then (((0 : Int64) * (27 : Int64)) + ((if z0 = 0 then nI 0 else ((z0 - (nI 97)) + (nI 1))).toInt64)) else (((((((0 : Int64) * (27 : Int64)) + ((if z0 = 0 then nI 0 else ((z0 - (nI 97)) + (nI 1))).toInt64)) * (27 : Int64)) + z1.toInt64) - (97 : Int64)) + (1 : Int64))) else (((((if z1 = 0 then (((0 : Int64) * (27 : Int64)) + ((if z0 = 0 then nI 0 else ((z0 - (nI 97)) + (nI 1))).toInt64)) else (((((((0 : Int64) * (27 : Int64)) + ((if z0 = 0 then nI 0 else ((z0 - (nI 97)) + (nI 1))).toInt64)) * (27 : Int64)) + z1.toInt64) - (97 : Int64)) + (1 : Int64))) * (27 : Int64)) + z2.toInt64) - (97 : Int64)) + (1 : Int64))) else (((((if z2 = 0 then (if z1 = 0 then (((0 : Int64) * (27 : Int64)) + ((if z0 = 0 then nI 0 else ((z0 - (nI 97)) + (nI 1))).toInt64)) else (((((((0 : Int64) * (27 : Int64)) + ((if z0 = 0 then nI 0 else ((z0 - (nI 97)) + (nI 1))).toInt64)) * (27 : Int64)) + z1.toInt64) - (97 : Int64)) + (1 : Int64))) else (((((if z1 = 0 then (((0 : Int64) * (27 : Int64)) + ((if z0 = 0 then nI 0 else ((z0 - (nI 97)) + (nI 1))).toInt64)) else (((((((0 : Int64) * (27 : Int64)) + ((if z0 = 0 then nI 0 else ((z0 - (nI 97)) + (nI 1))).toInt64)) * (27 : Int64)) + z1.toInt64) - (97 : Int64)) + (1 : Int64))) * (27 : Int64)) + z2.toInt64) - (97 : Int64)) + (1 : Int64))) * (27 : Int64)) + z3.toInt64) - (97 : Int64)) + (1 : Int64))) * (27 : Int64)) + z4.toInt64) - (97 : Int64)) + (1 : Int64))) * (27 : Int64)) + z5.toInt64) - (97 : Int64)) + (1 : Int64))) else (((((if z5 = 0 then (if z4 = 0 then (if z3 = 0 then (if z2 = 0 then (if z1 = 0 then (((0 : Int64) * (27 : Int64)) + ((if z0 = 0 then nI 0 else ((z0 - (nI 97)) + (nI 1))).toInt64)) else (((((((0 : Int64) * (27 : Int64)) + ((if z0 = 0 then nI 0 else ((z0 - (nI 97)) + (nI 1))).toInt64)) * (27 : Int64)) + z1.toInt64) - (97 : Int64)) + (1 : Int64))) else (((((if z1 = 0 then (((0 : Int64) * (27 : Int64)) + ((if z0 = 0 then nI 0 else ((z0 - (nI 97)) + (nI 1))).toInt64)) else (((((((0 : Int64) * (27 : Int64)) + ((if z0 = 0 then nI 0 else ((z0 - (nI 97)) + (nI 1))).toInt64)) * (27 : Int64)) + z1.toInt64) - (97 : Int64)) + (1 : Int64))) * (27 : Int64)) + z2.toInt64) - (97 : Int64)) + (1 : Int64))) else (((((if z2 = 0 then (if z1 = 0 then (((0 : Int64) * (27 : Int64)) + ((if z0 = 0 then nI 0 else ((z0 - (nI 97)) + (nI 1))).toInt64)) else (((((((0 : Int64) * (27 : Int64)) + ((if z0 = 0 then nI 0 else ((z0 - (nI 97)) + (nI 1))).toInt64)) * (27 : Int64)) + z1.toInt64) - (97 : Int64)) + (1 : Int64))) else (((((if z1 = 0 then (((0 : Int64) * (27 : Int64)) + ((if z0 = 0 then nI 0 else ((z0 - (nI 97)) + (nI 1))).toInt64)) else (((((((0 : Int64) * (27 : Int64)) + ((if z0 = 0 then nI 0 else ((z0 - (nI 97)) + (nI 1))).toInt64)) * (27 : Int64)) + z1.toInt64) - (97 : Int64)) + (1 : Int64))) * (27 : Int64)) + z2.toInt64) - (97 : Int64)) + (1 : Int64))) * (27 : Int64)) + z3.toInt64) - (97 : Int64)) + (1 : Int64))) else (((((if z3 = 0 then (if z2 = 0 then (if z1 = 0 then (((0 : Int64) * (27 : Int64)) + ((if z0 = 0 then nI 0 else ((z0 - (nI 97)) + (nI 1))).toInt64)) else (((((((0 : Int64) * (27 : Int64)) + ((if z0 = 0 then nI 0 else ((z0 - (nI 97)) + (nI 1))).toInt64)) * (27 : Int64)) + z1.toInt64) - (97 : Int64)) + (1 : Int64))) else (((((if z1 = 0 then (((0 : Int64) * (27 : Int64)) + ((if z0 = 0 then nI 0 else ((z0 - (nI 97)) + (nI 1))).toInt64)) else (((((((0 : Int64) * (27 : Int64)) + ((if z0 = 0 then nI 0 else ((z0 - (nI 97)) + (nI 1))).toInt64)) * (27 : Int64)) + z1.toInt64) - (97 : Int64)) + (1 : Int64))) * (27 : Int64)) + z2.toInt64) - (97 : Int64)) + (1 : Int64))) else (((((if z2 = 0 then (if z1 = 0 then (((0 : Int64) * (27 : Int64)) + ((if z0 = 0 then nI 0 else ((z0 - (nI 97)) + (nI 1))).toInt64)) else (((((((0 : Int64) * (27 : Int64)) + ((if z0 = 0 then nI 0 else ((z0 - (nI 97)) + (nI 1))).toInt64)) * (27 : Int64)) + z1.toInt64) - (97 : Int64)) + (1 : Int64))) else (((((if z1 = 0 then (((0 : Int64) * (27 : Int64)) + ((if z0 = 0 then nI 0 else ((z0 - (nI 97)) + (nI 1))).toInt64)) else (((((((0 : Int64) * (27 : Int64)) + ((if z0 = 0 then nI 0 else ((z0 - (nI 97)) + (nI 1))).toInt64)) * (27 : Int64)) + z1.toInt64) - (97 : Int64)) + (1 : Int64))) * (27 : Int64)) + z2.toInt64) - (97 : Int64)) + (1 : Int64))) * (27 : Int64)) + z3.toInt64) - (97 : Int64)) + (1 : Int64))) * (27 : Int64)) + z4.toInt64) - (97 : Int64)) + (1 : Int64))) else (((((if z4 = 0 then (if z3 = 0 then (if z2 = 0 then (if z1 = 0 then (((0 : Int64) * (27 : Int64)) + ((if z0 = 0 then nI 0 else ((z0 - (nI 97)) + (nI 1))).toInt64)) else (((((((0 : Int64) * (27 : Int64)) + ((if z0 = 0 then nI 0 else ((z0 - (nI 97)) + (nI 1))).toInt64)) * (27 : Int64)) + z1.toInt64) - (97 : Int64)) + (1 : Int64))) else (((((if z1 = 0 then (((0 : Int64) * (27 : Int64)) + ((if z0 = 0 then nI 0 else ((z0 - (nI 97)) + (nI 1))).toInt64)) else (((((((0 : Int64) * (27 : Int64)) + ((if z0 = 0 then nI 0 else ((z0 - (nI 97)) + (nI 1))).toInt64)) * (27 : Int64)) + z1.toInt64) - (97 : Int64)) + (1 : Int64))) * (27 : Int64)) + z2.toInt64) - (97 : Int64)) + (1 : Int64))) else (((((if z2 = 0 then (if z1 = 0 then (((0 : Int64) * (27 : Int64)) + ((if z0 = 0 then nI 0 else ((z0 - (nI 97)) + (nI 1))).toInt64)) else (((((((0 : Int64) * (27 : Int64)) + ((if z0 = 0 then nI 0 else ((z0 - (nI 97)) + (nI 1))).toInt64)) * (27 : Int64)) + z1.toInt64) - (97 : Int64)) + (1 : Int64))) else (((((if z1 = 0 then (((0 : Int64) * (27 : Int64)) + ((if z0 = 0 then nI 0 else ((z0 - (nI 97)) + (nI 1))).toInt64)) else (((((((0 : Int64) * (27 : Int64)) + ((if z0 = 0 then nI 0 else ((z0 - (nI 97)) + (nI 1))).toInt64)) * (27 : Int64)) + z1.toInt64) - (97 : Int64)) + (1 : Int64))) * (27 : Int64)) + z2.toInt64) - (97 : Int64)) + (1 : Int64))) * (27 : Int64)) + z3.toInt64) - (97 : Int64)) + (1 : Int64))) else (((((if z3 = 0 then (if z2 = 0 then (if z1 = 0 then (((0 : Int64) * (27 : Int64)) + ((if z0 = 0 then nI 0 else ((z0 - (nI 97)) + (nI 1))).toInt64)) else (((((((0 : Int64) * (27 : Int64)) + ((if z0 = 0 then nI 0 else ((z0 - (nI 97)) + (nI 1))).toInt64)) * (27 : Int64)) + z1.toInt64) - (97 : Int64)) + (1 : Int64))) else (((((if z1 = 0 then (((0 : Int64) * (27 : Int64)) + ((if z0 = 0 then nI 0 else ((z0 - (nI 97)) + (nI 1))).toInt64)) else (((((((0 : Int64) * (27 : Int64)) + ((if z0 = 0 then nI 0 else ((z0 - (nI 97)) + (nI 1))).toInt64)) * (27 : Int64)) + z1.toInt64) - (97 : Int64)) + (1 : Int64))) * (27 : Int64)) + z2.toInt64) - (97 : Int64)) + (1 : Int64))) else (((((if z2 = 0 then (if z1 = 0 then (((0 : Int64) * (27 : Int64)) + ((if z0 = 0 then nI 0 else ((z0 - (nI 97)) + (nI 1))).toInt64)) else (((((((0 : Int64) * (27 : Int64)) + ((if z0 = 0 then nI 0 else ((z0 - (nI 97)) + (nI 1))).toInt64)) * (27 : Int64)) + z1.toInt64) - (97 : Int64)) + (1 : Int64))) else (((((if z1 = 0 then (((0 : Int64) * (27 : Int64)) + ((if z0 = 0 then nI 0 else ((z0 - (nI 97)) + (nI 1))).toInt64)) else (((((((0 : Int64) * (27 : Int64)) + ((if z0 = 0 then nI 0 else ((z0 - (nI 97)) + (nI 1))).toInt64)) * (27 : Int64)) + z1.toInt64) - (97 : Int64)) + (1 : Int64))) * (27 : Int64)) + z2.toInt64) - (97 : Int64)) + (1 : Int64))) * (27 : Int64)) + z3.toInt64) - (97 : Int64)) + (1 : Int64))) * (27 : Int64)) + z4.toInt64) - (97 : Int64)) + (1 : Int64))) * (27 : Int64)) + z5.toInt64) - (97 : Int64)) + (1 : Int64))) * (27 : Int64)) + z6.toInt64) - (97 : Int64)) + (1 : Int64)))) (pcj := 187) (ls := ls) (rest' := []) ?_ (fun J_1 => ?_)
              · exact W.lret (v := (if z6 = 0 then (if z5 = 0 then (if z4 = 0 then (if z3 = 0 then (if z2 = 0 then (if z1 = 0 then (((0 : Int64) * (27 : Int64)) + ((if z0 = 0 then nI 0 else ((z0 - (nI 97)) + (nI 1))).toInt64)) else (((((((0 : Int64) * (27 : Int64)) + ((if z0 = 0 then nI 0 else ((z0 - (nI 97)) + (nI 1))).toInt64)) * (27 : Int64)) + z1.toInt64) - (97 : Int64)) + (1 : Int64))) else (((((if z1 = 0 then (((0 : Int64) * (27 : Int64)) + ((if z0 = 0 then nI 0 else ((z0 - (nI 97)) + (nI 1))).toInt64)) else (((((((0 : Int64) * (27 : Int64)) + ((if z0 = 0 then nI 0 else ((z0 - (nI 97)) + (nI 1))).toInt64)) * (27 : Int64)) + z1.toInt64) - (97 : Int64)) + (1 : Int64))) * (27 : Int64)) + z2.toInt64) - (97 : Int64)) + (1 : Int64))) else (((((if z2 = 0 then (if z1 = 0 then (((0 : Int64) * (27 : Int64)) + ((if z0 = 0 then nI 0 else ((z0 - (nI 97)) + (nI 1))).toInt64)) else (((((((0 : Int64) * (27 : Int64)) + ((if z0 = 0 then nI 0 else ((z0 - (nI 97)) + (nI 1))).toInt64)) * (27 : Int64)) + z1.toInt64) - (97 : Int64)) + (1 : Int64))) else (((((if z1 = 0 then (((0 : Int64) * (27 : Int64)) + ((if z0 = 0 then nI 0 else ((z0 - (nI 97)) + (nI 1))).toInt64)) else (((((((0 : Int64) * (27 : Int64)) + ((if z0 = 0 then nI 0 else ((z0 - (nI 97)) + (nI 1))).toInt64)) * (27 : Int64)) + z1.toInt64) - (97 : Int64)) + (1 : Int64))) * (27 : Int64)) + z2.toInt64) - (97 : Int64)) + (1 : Int64))) * (27 : Int64)) + z3.toInt64) - (97 : Int64)) + (1 : Int64))) else (((((if z3 = 0 then (if z2 = 0 then (if z1 = 0 then (((0 : Int64) * (27 : Int64)) + ((if z0 = 0 then nI 0 else ((z0 - (nI 97)) + (nI 1))).toInt64)) else (((((((0 : Int64) * (27 : Int64)) + ((if z0 = 0 then nI 0 else ((z0 - (nI 97)) + (nI 1))).toInt64)) * (27 : Int64)) + z1.toInt64) - (97 : Int64)) + (1 : Int64))) else (((((if z1 = 0 then (((0 : Int64) * (27 : Int64)) + ((if z0 = 0 then nI 0 else ((z0 - (nI 97)) + (nI 1))).toInt64)) else (((((((0 : Int64) * (27 : Int64)) + ((if z0 = 0 then nI 0 else ((z0 - (nI 97)) + (nI 1))).toInt64)) * (27 : Int64)) + z1.toInt64) - (97 : Int64)) + (1 : Int64))) * (27 : Int64)) + z2.toInt64) - (97 : Int64)) + (1 : Int64))) else (((((if z2 = 0 then (if z1 = 0 then (((0 : Int64) * (27 : Int64)) + ((if z0 = 0 then nI 0 else ((z0 - (nI 97)) + (nI 1))).toInt64)) else (((((((0 : Int64) * (27 : Int64)) + ((if z0 = 0 then nI 0 else ((z0 - (nI 97)) + (nI 1))).toInt64)) * (27 : Int64)) + z1.toInt64) - (97 : Int64)) + (1 : Int64))) else (((((if z1 = 0 then (((0 : Int64) * (27 : Int64)) + ((if z0 = 0 then nI 0 else ((z0 - (nI 97)) + (nI 1))).toInt64)) else (((((((0 : Int64) * (27 : Int64)) + ((if z0 = 0 then nI 0 else ((z0 - (nI 97)) + (nI 1))).toInt64)) * (27 : Int64)) + z1.toInt64) - (97 : Int64)) + (1 : Int64))) * (27 : Int64)) + z2.toInt64) - (97 : Int64)) + (1 : Int64))) * (27 : Int64)) + z3.toInt64) - (97 : Int64)) + (1 : Int64))) * (27 : Int64)) + z4.toInt64) - (97 : Int64)) + (1 : Int64))) else (((((if z4 = 0 then (if z3 = 0 then (if z2 = 0 then (if z1 = 0 then (((0 : Int64) * (27 : Int64)) + ((if z0 = 0 then nI 0 else ((z0 - (nI 97)) + (nI 1))).toInt64)) else (((((((0 : Int64) * (27 : Int64)) + ((if z0 = 0 then nI 0 else ((z0 - (nI 97)) + (nI 1))).toInt64)) * (27 : Int64)) + z1.toInt64) - (97 : Int64)) + (1 : Int64))) else (((((if z1 = 0 then (((0 : Int64) * (27 : Int64)) + ((if z0 = 0 then nI 0 else ((z0 - (nI 97)) + (nI 1))).toInt64)) else (((((((0 : Int64) * (27 : Int64)) + ((if z0 = 0 then nI 0 else ((z0 - (nI 97)) + (nI 1))).toInt64)) * (27 : Int64)) + z1.toInt64) - (97 : Int64)) + (1 : Int64))) * (27 : Int64)) + z2.toInt64) - (97 : Int64)) + (1 : Int64))) else (((((if z2 = 0 then (if z1 = 0 then (((0 : Int64) * (27 : Int64)) + ((if z0 = 0 then nI 0 else ((z0 - (nI 97)) + (nI 1))).toInt64)) else (((((((0 : Int64) * (27 : Int64)) + ((if z0 = 0 then nI 0 else ((z0 - (nI 97)) + (nI 1))).toInt64)) * (27 : Int64)) + z1.toInt64) - (97 : Int64)) + (1 : Int64))) else (((((if z1 = 0 then (((0 : Int64) * (27 : Int64)) + ((if z0 = 0 then nI 0 else ((z0 - (nI 97)) + (nI 1))).toInt64)) else (((((((0 : Int64) * (27 : Int64)) + ((if z0 = 0 then nI 0 else ((z0 - (nI 97)) + (nI 1))).toInt64)) * (27 : Int64)) + z1.toInt64) - (97 : Int64)) + (1 : Int64))) * (27 : Int64)) + z2.toInt64) - (97 : Int64)) + (1 : Int64))) * (27 : Int64)) + z3.toInt64) - (97 : Int64)) + (1 : Int64))) else (((((if z3 = 0 then (if z2 = 0 then (if z1 = 0 then (((0 : Int64) * (27 : Int64)) + ((if z0 = 0 then nI 0 else ((z0 - (nI 97)) + (nI 1))).toInt64)) else (((((((0 : Int64) * (27 : Int64)) + ((if z0 = 0 then nI 0 else ((z0 - (nI 97)) + (nI 1))).toInt64)) * (27 : Int64)) + z1.toInt64) - (97 : Int64)) + (1 : Int64))) else (((((if z1 = 0 then (((0 : Int64) * (27 : Int64)) + ((if z0 = 0 then nI 0 else ((z0 - (nI 97)) + (nI 1))).toInt64)) else (((((((0 : Int64) * (27 : Int64)) + ((if z0 = 0 then nI 0 else ((z0 - (nI 97)) + (nI 1))).toInt64)) * (27 : Int64)) + z1.toInt64) - (97 : Int64)) + (1 : Int64))) * (27 : Int64)) + z2.toInt64) - (97 : Int64)) + (1 : Int64))) else (((((if z2 = 0 then (if z1 = 0 then (((0 : Int64) * (27 : Int64)) + ((if z0 = 0 then nI 0 else ((z0 - (nI 97)) + (nI 1))).toInt64)) else (((((((0 : Int64) * (27 : Int64)) + ((if z0 = 0 then nI 0 else ((z0 - (nI 97)) + (nI 1))).toInt64)) * (27 : Int64)) + z1.toInt64) - (97 : Int64)) + (1 : Int64))) else (((((if z1 = 0 then (((0 : Int64) * (27 : Int64)) + ((if z0 = 0 then nI 0 else ((z0 - (nI 97)) + (nI 1))).toInt64)) else (((((((0 : Int64) * (27 : Int64)) + ((if z0 = 0 then nI 0 else ((z0 - (nI 97)) + (nI 1))).toInt64)) * (27 : Int64)) + z1.toInt64) - (97 : Int64)) + (1 : Int64))) * (27 : Int64)) + z2.toInt64) - (97 : Int64)) + (1 : Int64))) * (27 : Int64)) + z3.toInt64) - (97 : Int64)) + (1 : Int64))) * (27 : Int64)) + z4.toInt64) - (97 : Int64)) + (1 : Int64))) * (27 : Int64)) + z5.toInt64) - (97 : Int64)) + (1 : Int64))) else (((((if z5 = 0 then (if z4 = 0 then (if z3 = 0 then (if z2 = 0 then (if z1 = 0 then (((0 : Int64) * (27 : Int64)) + ((if z0 = 0 then nI 0 else ((z0 - (nI 97)) + (nI 1))).toInt64)) else (((((((0 : Int64) * (27 : Int64)) + ((if z0 = 0 then nI 0 else ((z0 - (nI 97)) + (nI 1))).toInt64)) * (27 : Int64)) + z1.toInt64) - (97 : Int64)) + (1 : Int64))) else (((((if z1 = 0 then (((0 : Int64) * (27 : Int64)) + ((if z0 = 0 then nI 0 else ((z0 - (nI 97)) + (nI 1))).toInt64)) else (((((((0 : Int64) * (27 : Int64)) + ((if z0 = 0 then nI 0 else ((z0 - (nI 97)) + (nI 1))).toInt64)) * (27 : Int64)) + z1.toInt64) - (97 : Int64)) + (1 : Int64))) * (27 : Int64)) + z2.toInt64) - (97 : Int64)) + (1 : Int64))) else (((((if z2 = 0 then (if z1 = 0 then (((0 : Int64) * (27 : Int64)) + ((if z0 = 0 then nI 0 else ((z0 - (nI 97)) + (nI 1))).toInt64)) else (((((((0 : Int64) * (27 : Int64)) + ((if z0 = 0 then nI 0 else ((z0 - (nI 97)) + (nI 1))).toInt64)) * (27 : Int64)) + z1.toInt64) - (97 : Int64)) + (1 : Int64))) else (((((if z1 = 0 then (((0 : Int64) * (27 : Int64)) + ((if z0 = 0 then nI 0 else ((z0 - (nI 97)) + (nI 1))).toInt64)) else (((((((0 : Int64) * (27 : Int64)) + ((if z0 = 0 then nI 0 else ((z0 - (nI 97)) + (nI 1))).toInt64)) * (27 : Int64)) + z1.toInt64) - (97 : Int64)) + (1 : Int64))) * (27 : Int64)) + z2.toInt64) - (97 : Int64)) + (1 : Int64))) * (27 : Int64)) + z3.toInt64) - (97 : Int64)) + (1 : Int64))) else (((((if z3 = 0 then (if z2 = 0 then (if z1 = 0 then (((0 : Int64) * (27 : Int64)) + ((if z0 = 0 then nI 0 else ((z0 - (nI 97)) + (nI 1))).toInt64)) else (((((((0 : Int64) * (27 : Int64)) + ((if z0 = 0 then nI 0 else ((z0 - (nI 97)) + (nI 1))).toInt64)) * (27 : Int64)) + z1.toInt64) - (97 : Int64)) + (1 : Int64))) else (((((if z1 = 0 then (((0 : Int64) * (27 : Int64)) + ((if z0 = 0 then nI 0 else ((z0 - (nI 97)) + (nI 1))).toInt64)) else (((((((0 : Int64) * (27 : Int64)) + ((if z0 = 0 then nI 0 else ((z0 - (nI 97)) + (nI 1))).toInt64)) * (27 : Int64)) + z1.toInt64) - (97 : Int64)) + (1 : Int64))) * (27 : Int64)) + z2.toInt64) - (97 : Int64)) + (1 : Int64))) else (((((if z2 = 0 then (if z1 = 0 then (((0 : Int64) * (27 : Int64)) + ((if z0 = 0 then nI 0 else ((z0 - (nI 97)) + (nI 1))).toInt64)) else (((((((0 : Int64) * (27 : Int64)) + ((if z0 = 0 then nI 0 else ((z0 - (nI 97)) + (nI 1))).toInt64)) * (27 : Int64)) + z1.toInt64) - (97 : Int64)) + (1 : Int64))) else (((((if z1 = 0 then (((0 : Int64) * (27 : Int64)) + ((if z0 = 0 then nI 0 else ((z0 - (nI 97)) + (nI 1))).toInt64)) else (((((((0 : Int64) * (27 : Int64)) + ((if z0 = 0 then nI 0 else ((z0 - (nI 97)) + (nI 1))).toInt64)) * (27 : Int64)) + z1.toInt64) - (97 : Int64)) + (1 : Int64))) * (27 : Int64)) + z2.toInt64) - (97 : Int64)) + (1 : Int64))) * (27 : Int64)) + z3.toInt64) - (97 : Int64)) + (1 : Int64))) * (27 : Int64)) + z4.toInt64) - (97 : Int64)) + (1 : Int64))) else (((((if z4 = 0 then (if z3 = 0 then (if z2 = 0 then (if z1 = 0 then (((0 : Int64) * (27 : Int64)) + ((if z0 = 0 then nI 0 else ((z0 - (nI 97)) + (nI 1))).toInt64)) else (((((((0 : Int64) * (27 : Int64)) + ((if z0 = 0 then nI 0 else ((z0 - (nI 97)) + (nI 1))).toInt64)) * (27 : Int64)) + z1.toInt64) - (97 : Int64)) + (1 : Int64))) else (((((if z1 = 0 then (((0 : Int64) * (27 : Int64)) + ((if z0 = 0 then nI 0 else ((z0 - (nI 97)) + (nI 1))).toInt64)) else (((((((0 : Int64) * (27 : Int64)) + ((if z0 = 0 then nI 0 else ((z0 - (nI 97)) + (nI 1))).toInt64)) * (27 : Int64)) + z1.toInt64) - (97 : Int64)) + (1 : Int64))) * (27 : Int64)) + z2.toInt64) - (97 : Int64)) + (1 : Int64))) else (((((if z2 = 0 then (if z1 = 0 then (((0 : Int64) * (27 : Int64)) + ((if z0 = 0 then nI 0 else ((z0 - (nI 97)) + (nI 1))).toInt64)) else (((((((0 : Int64) * (27 : Int64)) + ((if z0 = 0 then nI 0 else ((z0 - (nI 97)) + (nI 1))).toInt64)) * (27 : Int64)) + z1.toInt64) - (97 : Int64)) + (1 : Int64))) else (((((if z1 = 0 then (((0 : Int64) * (27 : Int64)) + ((if z0 = 0 then nI 0 else ((z0 - (nI 97)) + (nI 1))).toInt64)) else (((((((0 : Int64) * (27 : Int64)) + ((if z0 = 0 then nI 0 else ((z0 - (nI 97)) + (nI 1))).toInt64)) * (27 : Int64)) + z1.toInt64) - (97 : Int64)) + (1 : Int64))) * (27 : Int64)) + z2.toInt64) - (97 : Int64)) + (1 : Int64))) * (27 : Int64)) + z3.toInt64) - (97 : Int64)) + (1 : Int64))) else (((((if z3 = 0 then (if z2 = 0 then (if z1 = 0 then (((0 : Int64) * (27 : Int64)) + ((if z0 = 0 then nI 0 else ((z0 - (nI 97)) + (nI 1))).toInt64)) else (((((((0 : Int64) * (27 : Int64)) + ((if z0 = 0 then nI 0 else ((z0 - (nI 97)) + (nI 1))).toInt64)) * (27 : Int64)) + z1.toInt64) - (97 : Int64)) + (1 : Int64))) else (((((if z1 = 0 then (((0 : Int64) * (27 : Int64)) + ((if z0 = 0 then nI 0 else ((z0 - (nI 97)) + (nI 1))).toInt64)) else (((((((0 : Int64) * (27 : Int64)) + ((if z0 = 0 then nI 0 else ((z0 - (nI 97)) + (nI 1))).toInt64)) * (27 : Int64)) + z1.toInt64) - (97 : Int64)) + (1 : Int64))) * (27 : Int64)) + z2.toInt64) - (97 : Int64)) + (1 : Int64))) else (((((if z2 = 0 then (if z1 = 0 then (((0 : Int64) * (27 : Int64)) + ((if z0 = 0 then nI 0 else ((z0 - (nI 97)) + (nI 1))).toInt64)) else (((((((0 : Int64) * (27 : Int64)) + ((if z0 = 0 then nI 0 else ((z0 - (nI 97)) + (nI 1))).toInt64)) * (27 : Int64)) + z1.toInt64) - (97 : Int64)) + (1 : Int64))) else (((((if z1 = 0 then (((0 : Int64) * (27 : Int64)) + ((if z0 = 0 then nI 0 else ((z0 - (nI 97)) + (nI 1))).toInt64)) else (((((((0 : Int64) * (27 : Int64)) + ((if z0 = 0 then nI 0 else ((z0 - (nI 97)) + (nI 1))).toInt64)) * (27 : Int64)) + z1.toInt64) - (97 : Int64)) + (1 : Int64))) * (27 : Int64)) + z2.toInt64) - (97 : Int64)) + (1 : Int64))) * (27 : Int64)) + z3.toInt64) - (97 : Int64)) + (1 : Int64))) * (27 : Int64)) + z4.toInt64) - (97 : Int64)) + (1 : Int64))) * (27 : Int64)) + z5.toInt64) - (97 : Int64)) + (1 : Int64))) * (27 : Int64)) + z6.toInt64) - (97 : Int64)) + (1 : Int64)))) hx hb hr (fun t ht hW => ⟨(if z6 = 0 then (if z5 = 0 then (if z4 = 0 then (if z3 = 0 then (if z2 = 0 then (if z1 = 0 then (((0 : Int64) * (27 : Int64)) + ((if z0 = 0 then nI 0 else ((z0 - (nI 97)) + (nI 1))).toInt64)) else (((((((0 : Int64) * (27 : Int64)) + ((if z0 = 0 then nI 0 else ((z0 - (nI 97)) + (nI 1))).toInt64)) * (27 : Int64)) + z1.toInt64) - (97 : Int64)) + (1 : Int64))) else (((((if z1 = 0 then (((0 : Int64) * (27 : Int64)) + ((if z0 = 0 then nI 0 else ((z0 - (nI 97)) + (nI 1))).toInt64)) else (((((((0 : Int64) * (27 : Int64)) + ((if z0 = 0 then nI 0 else ((z0 - (nI 97)) + (nI 1))).toInt64)) * (27 : Int64)) + z1.toInt64) - (97 : Int64)) + (1 : Int64))) * (27 : Int64)) + z2.toInt64) - (97 : Int64)) + (1 : Int64))) else (((((if z2 = 0 then (if z1 = 0 then (((0 : Int64) * (27 : Int64)) + ((if z0 = 0 then nI 0 else ((z0 - (nI 97)) + (nI 1))).toInt64)) else (((((((0 : Int64) * (27 : Int64)) + ((if z0 = 0 then nI 0 else ((z0 - (nI 97)) + (nI 1))).toInt64)) * (27 : Int64)) + z1.toInt64) - (97 : Int64)) + (1 : Int64))) else (((((if z1 = 0 then (((0 : Int64) * (27 : Int64)) + ((if z0 = 0 then nI 0 else ((z0 - (nI 97)) + (nI 1))).toInt64)) else (((((((0 : Int64) * (27 : Int64)) + ((if z0 = 0 then nI 0 else ((z0 - (nI 97)) + (nI 1))).toInt64)) * (27 : Int64)) + z1.toInt64) - (97 : Int64)) + (1 : Int64))) * (27 : Int64)) + z2.toInt64) - (97 : Int64)) + (1 : Int64))) * (27 : Int64)) + z3.toInt64) - (97 : Int64)) + (1 : Int64))) else (((((if z3 = 0 then (if z2 = 0 then (if z1 = 0 then (((0 : Int64) * (27 : Int64)) + ((if z0 = 0 then nI 0 else ((z0 - (nI 97)) + (nI 1))).toInt64)) else (((((((0 : Int64) * (27 : Int64)) + ((if z0 = 0 then nI 0 else ((z0 - (nI 97)) + (nI 1))).toInt64)) * (27 : Int64)) + z1.toInt64) - (97 : Int64)) + (1 : Int64))) else (((((if z1 = 0 then (((0 : Int64) * (27 : Int64)) + ((if z0 = 0 then nI 0 else ((z0 - (nI 97)) + (nI 1))).toInt64)) else (((((((0 : Int64) * (27 : Int64)) + ((if z0 = 0 then nI 0 else ((z0 - (nI 97)) + (nI 1))).toInt64)) * (27 : Int64)) + z1.toInt64) - (97 : Int64)) + (1 : Int64))) * (27 : Int64)) + z2.toInt64) - (97 : Int64)) + (1 : Int64))) else (((((if z2 = 0 then (if z1 = 0 then (((0 : Int64) * (27 : Int64)) + ((if z0 = 0 then nI 0 else ((z0 - (nI 97)) + (nI 1))).toInt64)) else (((((((0 : Int64) * (27 : Int64)) + ((if z0 = 0 then nI 0 else ((z0 - (nI 97)) + (nI 1))).toInt64)) * (27 : Int64)) + z1.toInt64) - (97 : Int64)) + (1 : Int64))) else (((((if z1 = 0 then (((0 : Int64) * (27 : Int64)) + ((if z0 = 0 then nI 0 else ((z0 - (nI 97)) + (nI 1))).toInt64)) else (((((((0 : Int64) * (27 : Int64)) + ((if z0 = 0 then nI 0 else ((z0 - (nI 97)) + (nI 1))).toInt64)) * (27 : Int64)) + z1.toInt64) - (97 : Int64)) + (1 : Int64))) * (27 : Int64)) + z2.toInt64) - (97 : Int64)) + (1 : Int64))) * (27 : Int64)) + z3.toInt64) - (97 : Int64)) + (1 : Int64))) * (27 : Int64)) + z4.toInt64) - (97 : Int64)) + (1 : Int64))) else (((((if z4 = 0 then (if z3 = 0 then (if z2 = 0 then (if z1 = 0 then (((0 : Int64) * (27 : Int64)) + ((if z0 = 0 then nI 0 else ((z0 - (nI 97)) + (nI 1))).toInt64)) else (((((((0 : Int64) * (27 : Int64)) + ((if z0 = 0 then nI 0 else ((z0 - (nI 97)) + (nI 1))).toInt64)) * (27 : Int64)) + z1.toInt64) - (97 : Int64)) + (1 : Int64))) else (((((if z1 = 0 then (((0 : Int64) * (27 : Int64)) + ((if z0 = 0 then nI 0 else ((z0 - (nI 97)) + (nI 1))).toInt64)) else (((((((0 : Int64) * (27 : Int64)) + ((if z0 = 0 then nI 0 else ((z0 - (nI 97)) + (nI 1))).toInt64)) * (27 : Int64)) + z1.toInt64) - (97 : Int64)) + (1 : Int64))) * (27 : Int64)) + z2.toInt64) - (97 : Int64)) + (1 : Int64))) else (((((if z2 = 0 then (if z1 = 0 then (((0 : Int64) * (27 : Int64)) + ((if z0 = 0 then nI 0 else ((z0 - (nI 97)) + (nI 1))).toInt64)) else (((((((0 : Int64) * (27 : Int64)) + ((if z0 = 0 then nI 0 else ((z0 - (nI 97)) + (nI 1))).toInt64)) * (27 : Int64)) + z1.toInt64) - (97 : Int64)) + (1 : Int64))) else (((((if z1 = 0 then (((0 : Int64) * (27 : Int64)) + ((if z0 = 0 then nI 0 else ((z0 - (nI 97)) + (nI 1))).toInt64)) else (((((((0 : Int64) * (27 : Int64)) + ((if z0 = 0 then nI 0 else ((z0 - (nI 97)) + (nI 1))).toInt64)) * (27 : Int64)) + z1.toInt64) - (97 : Int64)) + (1 : Int64))) * (27 : Int64)) + z2.toInt64) - (97 : Int64)) + (1 : Int64))) * (27 : Int64)) + z3.toInt64) - (97 : Int64)) + (1 : Int64))) else (((((if z3 = 0 then (if z2 = 0 then (if z1 = 0 then (((0 : Int64) * (27 : Int64)) + ((if z0 = 0 then nI 0 else ((z0 - (nI 97)) + (nI 1))).toInt64)) else (((((((0 : Int64) * (27 : Int64)) + ((if z0 = 0 then nI 0 else ((z0 - (nI 97)) + (nI 1))).toInt64)) * (27 : Int64)) + z1.toInt64) - (97 : Int64)) + (1 : Int64))) else (((((if z1 = 0 then (((0 : Int64) * (27 : Int64)) + ((if z0 = 0 then nI 0 else ((z0 - (nI 97)) + (nI 1))).toInt64)) else (((((((0 : Int64) * (27 : Int64)) + ((if z0 = 0 then nI 0 else ((z0 - (nI 97)) + (nI 1))).toInt64)) * (27 : Int64)) + z1.toInt64) - (97 : Int64)) + (1 : Int64))) * (27 : Int64)) + z2.toInt64) - (97 : Int64)) + (1 : Int64))) else (((((if z2 = 0 then (if z1 = 0 then (((0 : Int64) * (27 : Int64)) + ((if z0 = 0 then nI 0 else ((z0 - (nI 97)) + (nI 1))).toInt64)) else (((((((0 : Int64) * (27 : Int64)) + ((if z0 = 0 then nI 0 else ((z0 - (nI 97)) + (nI 1))).toInt64)) * (27 : Int64)) + z1.toInt64) - (97 : Int64)) + (1 : Int64))) else (((((if z1 = 0 then (((0 : Int64) * (27 : Int64)) + ((if z0 = 0 then nI 0 else ((z0 - (nI 97)) + (nI 1))).toInt64)) else (((((((0 : Int64) * (27 : Int64)) + ((if z0 = 0 then nI 0 else ((z0 - (nI 97)) + (nI 1))).toInt64)) * (27 : Int64)) + z1.toInt64) - (97 : Int64)) + (1 : Int64))) * (27 : Int64)) + z2.toInt64) - (97 : Int64)) + (1 : Int64))) * (27 : Int64)) + z3.toInt64) - (97 : Int64)) + (1 : Int64))) * (27 : Int64)) + z4.toInt64) - (97 : Int64)) + (1 : Int64))) * (27 : Int64)) + z5.toInt64) - (97 : Int64)) + (1 : Int64))) else (((((if z5 = 0 then (if z4 = 0 then (if z3 = 0 then (if z2 = 0 then (if z1 = 0 then (((0 : Int64) * (27 : Int64)) + ((if z0 = 0 then nI 0 else ((z0 - (nI 97)) + (nI 1))).toInt64)) else (((((((0 : Int64) * (27 : Int64)) + ((if z0 = 0 then nI 0 else ((z0 - (nI 97)) + (nI 1))).toInt64)) * (27 : Int64)) + z1.toInt64) - (97 : Int64)) + (1 : Int64))) else (((((if z1 = 0 then (((0 : Int64) * (27 : Int64)) + ((if z0 = 0 then nI 0 else ((z0 - (nI 97)) + (nI 1))).toInt64)) else (((((((0 : Int64) * (27 : Int64)) + ((if z0 = 0 then nI 0 else ((z0 - (nI 97)) + (nI 1))).toInt64)) * (27 : Int64)) + z1.toInt64) - (97 : Int64)) + (1 : Int64))) * (27 : Int64)) + z2.toInt64) - (97 : Int64)) + (1 : Int64))) else (((((if z2 = 0 then (if z1 = 0 then (((0 : Int64) * (27 : Int64)) + ((if z0 = 0 then nI 0 else ((z0 - (nI 97)) + (nI 1))).toInt64)) else (((((((0 : Int64) * (27 : Int64)) + ((if z0 = 0 then nI 0 else ((z0 - (nI 97)) + (nI 1))).toInt64)) * (27 : Int64)) + z1.toInt64) - (97 : Int64)) + (1 : Int64))) else (((((if z1 = 0 then (((0 : Int64) * (27 : Int64)) + ((if z0 = 0 then nI 0 else ((z0 - (nI 97)) + (nI 1))).toInt64)) else (((((((0 : Int64) * (27 : Int64)) + ((if z0 = 0 then nI 0 else ((z0 - (nI 97)) + (nI 1))).toInt64)) * (27 : Int64)) + z1.toInt64) - (97 : Int64)) + (1 : Int64))) * (27 : Int64)) + z2.toInt64) - (97 : Int64)) + (1 : Int64))) * (27 : Int64)) + z3.toInt64) - (97 : Int64)) + (1 : Int64))) else (((((if z3 = 0 then (if z2 = 0 then (if z1 = 0 then (((0 : Int64) * (27 : Int64)) + ((if z0 = 0 then nI 0 else ((z0 - (nI 97)) + (nI 1))).toInt64)) else (((((((0 : Int64) * (27 : Int64)) + ((if z0 = 0 then nI 0 else ((z0 - (nI 97)) + (nI 1))).toInt64)) * (27 : Int64)) + z1.toInt64) - (97 : Int64)) + (1 : Int64))) else (((((if z1 = 0 then (((0 : Int64) * (27 : Int64)) + ((if z0 = 0 then nI 0 else ((z0 - (nI 97)) + (nI 1))).toInt64)) else (((((((0 : Int64) * (27 : Int64)) + ((if z0 = 0 then nI 0 else ((z0 - (nI 97)) + (nI 1))).toInt64)) * (27 : Int64)) + z1.toInt64) - (97 : Int64)) + (1 : Int64))) * (27 : Int64)) + z2.toInt64) - (97 : Int64)) + (1 : Int64))) else (((((if z2 = 0 then (if z1 = 0 then (((0 : Int64) * (27 : Int64)) + ((if z0 = 0 then nI 0 else ((z0 - (nI 97)) + (nI 1))).toInt64)) else (((((((0 : Int64) * (27 : Int64)) + ((if z0 = 0 then nI 0 else ((z0 - (nI 97)) + (nI 1))).toInt64)) * (27 : Int64)) + z1.toInt64) - (97 : Int64)) + (1 : Int64))) else (((((if z1 = 0 then (((0 : Int64) * (27 : Int64)) + ((if z0 = 0 then nI 0 else ((z0 - (nI 97)) + (nI 1))).toInt64)) else (((((((0 : Int64) * (27 : Int64)) + ((if z0 = 0 then nI 0 else ((z0 - (nI 97)) + (nI 1))).toInt64)) * (27 : Int64)) + z1.toInt64) - (97 : Int64)) + (1 : Int64))) * (27 : Int64)) + z2.toInt64) - (97 : Int64)) + (1 : Int64))) * (27 : Int64)) + z3.toInt64) - (97 : Int64)) + (1 : Int64))) * (27 : Int64)) + z4.toInt64) - (97 : Int64)) + (1 : Int64))) else (((((if z4 = 0 then (if z3 = 0 then (if z2 = 0 then (if z1 = 0 then (((0 : Int64) * (27 : Int64)) + ((if z0 = 0 then nI 0 else ((z0 - (nI 97)) + (nI 1))).toInt64)) else (((((((0 : Int64) * (27 : Int64)) + ((if z0 = 0 then nI 0 else ((z0 - (nI 97)) + (nI 1))).toInt64)) * (27 : Int64)) + z1.toInt64) - (97 : Int64)) + (1 : Int64))) else (((((if z1 = 0 then (((0 : Int64) * (27 : Int64)) + ((if z0 = 0 then nI 0 else ((z0 - (nI 97)) + (nI 1))).toInt64)) else (((((((0 : Int64) * (27 : Int64)) + ((if z0 = 0 then nI 0 else ((z0 - (nI 97)) + (nI 1))).toInt64)) * (27 : Int64)) + z1.toInt64) - (97 : Int64)) + (1 : Int64))) * (27 : Int64)) + z2.toInt64) - (97 : Int64)) + (1 : Int64))) else (((((if z2 = 0 then (if z1 = 0 then (((0 : Int64) * (27 : Int64)) + ((if z0 = 0 then nI 0 else ((z0 - (nI 97)) + (nI 1))).toInt64)) else (((((((0 : Int64) * (27 : Int64)) + ((if z0 = 0 then nI 0 else ((z0 - (nI 97)) + (nI 1))).toInt64)) * (27 : Int64)) + z1.toInt64) - (97 : Int64)) + (1 : Int64))) else (((((if z1 = 0 then (((0 : Int64) * (27 : Int64)) + ((if z0 = 0 then nI 0 else ((z0 - (nI 97)) + (nI 1))).toInt64)) else (((((((0 : Int64) * (27 : Int64)) + ((if z0 = 0 then nI 0 else ((z0 - (nI 97)) + (nI 1))).toInt64)) * (27 : Int64)) + z1.toInt64) - (97 : Int64)) + (1 : Int64))) * (27 : Int64)) + z2.toInt64) - (97 : Int64)) + (1 : Int64))) * (27 : Int64)) + z3.toInt64) - (97 : Int64)) + (1 : Int64))) else (((((if z3 = 0 then (if z2 = 0 then (if z1 = 0 then (((0 : Int64) * (27 : Int64)) + ((if z0 = 0 then nI 0 else ((z0 - (nI 97)) + (nI 1))).toInt64)) else (((((((0 : Int64) * (27 : Int64)) + ((if z0 = 0 then nI 0 else ((z0 - (nI 97)) + (nI 1))).toInt64)) * (27 : Int64)) + z1.toInt64) - (97 : Int64)) + (1 : Int64))) else (((((if z1 = 0 then (((0 : Int64) * (27 : Int64)) + ((if z0 = 0 then nI 0 else ((z0 - (nI 97)) + (nI 1))).toInt64)) else (((((((0 : Int64) * (27 : Int64)) + ((if z0 = 0 then nI 0 else ((z0 - (nI 97)) + (nI 1))).toInt64)) * (27 : Int64)) + z1.toInt64) - (97 : Int64)) + (1 : Int64))) * (27 : Int64)) + z2.toInt64) - (97 : Int64)) + (1 : Int64))) else (((((if z2 = 0 then (if z1 = 0 then (((0 : Int64) * (27 : Int64)) + ((if z0 = 0 then nI 0 else ((z0 - (nI 97)) + (nI 1))).toInt64)) else (((((((0 : Int64) * (27 : Int64)) + ((if z0 = 0 then nI 0 else ((z0 - (nI 97)) + (nI 1))).toInt64)) * (27 : Int64)) + z1.toInt64) - (97 : Int64)) + (1 : Int64))) else (((((if z1 = 0 then (((0 : Int64) * (27 : Int64)) + ((if z0 = 0 then nI 0 else ((z0 - (nI 97)) + (nI 1))).toInt64)) else (((((((0 : Int64) * (27 : Int64)) + ((if z0 = 0 then nI 0 else ((z0 - (nI 97)) + (nI 1))).toInt64)) * (27 : Int64)) + z1.toInt64) - (97 : Int64)) + (1 : Int64))) * (27 : Int64)) + z2.toInt64) - (97 : Int64)) + (1 : Int64))) * (27 : Int64)) + z3.toInt64) - (97 : Int64)) + (1 : Int64))) * (27 : Int64)) + z4.toInt64) - (97 : Int64)) + (1 : Int64))) * (27 : Int64)) + z5.toInt64) - (97 : Int64)) + (1 : Int64))) * (27 : Int64)) + z6.toInt64) - (97 : Int64)) + (1 : Int64))), rfl, (by rw [f_X8_spelt]), ht⟩) (fun _ h => by cases h) dX8_spelt_187
              · refine lv_if_ne (tgt := 171) hx hb dX8_spelt_163 (by decide) (fun c_2 => ?_) (fun c_2 => ?_)
                · refine lv_lload hx hb dX8_spelt_171 (lv_at hl 0 rfl) ?_
                  refine lv_ldc2 (v := (27)) hx hb hown (hts (.constantLong RX8 78 (27)) (by decide +kernel)) dX8_spelt_173 ?_
                  refine lv_lmul hx hb dX8_spelt_176 ?_
                  refine lv_iload hx hb dX8_spelt_177 (lv_at hl 7 rfl) ?_
                  refine lv_i2l hx hb dX8_spelt_179 rfl ?_
                  refine lv_ladd hx hb dX8_spelt_180 ?_
                  refine lv_ldc2 (v := (97)) hx hb hown (hts (.constantLong RX8 70 (97)) (by decide +kernel)) dX8_spelt_181 ?_
                  refine lv_lsub hx hb dX8_spelt_184 ?_
                  refine lv_lconst (v := 1) hx hb dX8_spelt_185 rfl ?_
                  refine lv_ladd hx hb dX8_spelt_186 ?_
                  exact J_1 _ (by rw [if_neg c_2])
                · refine lv_lload hx hb dX8_spelt_166 (lv_at hl 0 rfl) ?_
                  refine lv_goto (tgt := 187) hx hb dX8_spelt_168 (by decide) ?_
                  exact J_1 _ (by rw [if_pos c_2])
            · refine lv_if_ne (tgt := 143) hx hb dX8_spelt_135 (by decide) (fun c_4 => ?_) (fun c_4 => ?_)
              · refine lv_lload hx hb dX8_spelt_143 (lv_at hl 0 rfl) ?_
                refine lv_ldc2 (v := (27)) hx hb hown (hts (.constantLong RX8 78 (27)) (by decide +kernel)) dX8_spelt_145 ?_
                refine lv_lmul hx hb dX8_spelt_148 ?_
                refine lv_iload hx hb dX8_spelt_149 (lv_at hl 6 rfl) ?_
                refine lv_i2l hx hb dX8_spelt_151 rfl ?_
                refine lv_ladd hx hb dX8_spelt_152 ?_
                refine lv_ldc2 (v := (97)) hx hb hown (hts (.constantLong RX8 70 (97)) (by decide +kernel)) dX8_spelt_153 ?_
                refine lv_lsub hx hb dX8_spelt_156 ?_
                refine lv_lconst (v := 1) hx hb dX8_spelt_157 rfl ?_
                refine lv_ladd hx hb dX8_spelt_158 ?_
                exact J_3 _ (by rw [if_neg c_4])
              · refine lv_lload hx hb dX8_spelt_138 (lv_at hl 0 rfl) ?_
                refine lv_goto (tgt := 159) hx hb dX8_spelt_140 (by decide) ?_
                exact J_3 _ (by rw [if_pos c_4])
          · refine lv_if_ne (tgt := 115) hx hb dX8_spelt_107 (by decide) (fun c_6 => ?_) (fun c_6 => ?_)
            · refine lv_lload hx hb dX8_spelt_115 (lv_at hl 0 rfl) ?_
              refine lv_ldc2 (v := (27)) hx hb hown (hts (.constantLong RX8 78 (27)) (by decide +kernel)) dX8_spelt_117 ?_
              refine lv_lmul hx hb dX8_spelt_120 ?_
              refine lv_iload hx hb dX8_spelt_121 (lv_at hl 5 rfl) ?_
              refine lv_i2l hx hb dX8_spelt_123 rfl ?_
              refine lv_ladd hx hb dX8_spelt_124 ?_
              refine lv_ldc2 (v := (97)) hx hb hown (hts (.constantLong RX8 70 (97)) (by decide +kernel)) dX8_spelt_125 ?_
              refine lv_lsub hx hb dX8_spelt_128 ?_
              refine lv_lconst (v := 1) hx hb dX8_spelt_129 rfl ?_
              refine lv_ladd hx hb dX8_spelt_130 ?_
              exact J_5 _ (by rw [if_neg c_6])
            · refine lv_lload hx hb dX8_spelt_110 (lv_at hl 0 rfl) ?_
              refine lv_goto (tgt := 131) hx hb dX8_spelt_112 (by decide) ?_
              exact J_5 _ (by rw [if_pos c_6])
        · refine lv_if_ne (tgt := 88) hx hb dX8_spelt_80 (by decide) (fun c_8 => ?_) (fun c_8 => ?_)
          · refine lv_lload hx hb dX8_spelt_88 (lv_at hl 0 rfl) ?_
            refine lv_ldc2 (v := (27)) hx hb hown (hts (.constantLong RX8 78 (27)) (by decide +kernel)) dX8_spelt_90 ?_
            refine lv_lmul hx hb dX8_spelt_93 ?_
            refine lv_iload_n hx hb dX8_spelt_94 rfl (lv_at hl 4 rfl) ?_
            refine lv_i2l hx hb dX8_spelt_95 rfl ?_
            refine lv_ladd hx hb dX8_spelt_96 ?_
            refine lv_ldc2 (v := (97)) hx hb hown (hts (.constantLong RX8 70 (97)) (by decide +kernel)) dX8_spelt_97 ?_
            refine lv_lsub hx hb dX8_spelt_100 ?_
            refine lv_lconst (v := 1) hx hb dX8_spelt_101 rfl ?_
            refine lv_ladd hx hb dX8_spelt_102 ?_
            exact J_7 _ (by rw [if_neg c_8])
          · refine lv_lload hx hb dX8_spelt_83 (lv_at hl 0 rfl) ?_
            refine lv_goto (tgt := 103) hx hb dX8_spelt_85 (by decide) ?_
            exact J_7 _ (by rw [if_pos c_8])
      · refine lv_if_ne (tgt := 62) hx hb dX8_spelt_54 (by decide) (fun c_10 => ?_) (fun c_10 => ?_)
        · refine lv_lload hx hb dX8_spelt_62 (lv_at hl 0 rfl) ?_
          refine lv_ldc2 (v := (27)) hx hb hown (hts (.constantLong RX8 78 (27)) (by decide +kernel)) dX8_spelt_64 ?_
          refine lv_lmul hx hb dX8_spelt_67 ?_
          refine lv_iload_n hx hb dX8_spelt_68 rfl (lv_at hl 3 rfl) ?_
          refine lv_i2l hx hb dX8_spelt_69 rfl ?_
          refine lv_ladd hx hb dX8_spelt_70 ?_
          refine lv_ldc2 (v := (97)) hx hb hown (hts (.constantLong RX8 70 (97)) (by decide +kernel)) dX8_spelt_71 ?_
          refine lv_lsub hx hb dX8_spelt_74 ?_
          refine lv_lconst (v := 1) hx hb dX8_spelt_75 rfl ?_
          refine lv_ladd hx hb dX8_spelt_76 ?_
          exact J_9 _ (by rw [if_neg c_10])
        · refine lv_lload hx hb dX8_spelt_57 (lv_at hl 0 rfl) ?_
          refine lv_goto (tgt := 77) hx hb dX8_spelt_59 (by decide) ?_
          exact J_9 _ (by rw [if_pos c_10])
    · refine lv_if_ne (tgt := 36) hx hb dX8_spelt_28 (by decide) (fun c_12 => ?_) (fun c_12 => ?_)
      · refine lv_lload hx hb dX8_spelt_36 (lv_at hl 0 rfl) ?_
        refine lv_ldc2 (v := (27)) hx hb hown (hts (.constantLong RX8 78 (27)) (by decide +kernel)) dX8_spelt_38 ?_
        refine lv_lmul hx hb dX8_spelt_41 ?_
        refine lv_iload_n hx hb dX8_spelt_42 rfl (lv_at hl 2 rfl) ?_
        refine lv_i2l hx hb dX8_spelt_43 rfl ?_
        refine lv_ladd hx hb dX8_spelt_44 ?_
        refine lv_ldc2 (v := (97)) hx hb hown (hts (.constantLong RX8 70 (97)) (by decide +kernel)) dX8_spelt_45 ?_
        refine lv_lsub hx hb dX8_spelt_48 ?_
        refine lv_lconst (v := 1) hx hb dX8_spelt_49 rfl ?_
        refine lv_ladd hx hb dX8_spelt_50 ?_
        exact J_11 _ (by rw [if_neg c_12])
      · refine lv_lload hx hb dX8_spelt_31 (lv_at hl 0 rfl) ?_
        refine lv_goto (tgt := 51) hx hb dX8_spelt_33 (by decide) ?_
        exact J_11 _ (by rw [if_pos c_12])
  · refine lv_if_ne (tgt := 17) hx hb dX8_spelt_10 (by decide) (fun c_14 => ?_) (fun c_14 => ?_)
    · refine lv_iload_n hx hb dX8_spelt_17 rfl (lv_at hl 1 rfl) ?_
      refine lv_bipush (v := nI 97) hx hb dX8_spelt_18 rfl ?_
      refine lv_isub hx hb dX8_spelt_20 ?_
      refine lv_iconst (v := nI 1) hx hb dX8_spelt_21 rfl ?_
      refine lv_iadd hx hb dX8_spelt_22 ?_
      exact J_13 _ (by rw [if_neg c_14])
    · refine lv_iconst (v := nI 0) hx hb dX8_spelt_13 rfl ?_
      refine lv_goto (tgt := 23) hx hb dX8_spelt_14 (by decide) ?_
      exact J_13 _ (by rw [if_pos c_14])
def f_X8_verb (mt : MTx) : Int32 := (if (lg_cmp (f_X8_wordOf mt) (f_X8_spelt (nI 99) (nI 108) (nI 105) (nI 109) (nI 98) (nI 101) (nI 114))) = 0 then nI 0 else (if (lg_cmp (f_X8_wordOf mt) (f_X8_spelt (nI 103) (nI 117) (nI 105) (nI 100) (nI 101) (nI 0) (nI 0))) = 0 then nI 1 else (if (lg_cmp (f_X8_wordOf mt) (f_X8_spelt (nI 109) (nI 111) (nI 117) (nI 114) (nI 110) (nI 101) (nI 114))) = 0 then nI 2 else (if (lg_cmp (f_X8_wordOf mt) (f_X8_spelt (nI 98) (nI 97) (nI 110) (nI 107) (nI 0) (nI 0) (nI 0))) = 0 then nI 3 else (if (lg_cmp (f_X8_wordOf mt) (f_X8_spelt (nI 116) (nI 111) (nI 112) (nI 0) (nI 0) (nI 0) (nI 0))) = 0 then nI 4 else (if (lg_cmp (f_X8_wordOf mt) (f_X8_spelt (nI 100) (nI 101) (nI 101) (nI 100) (nI 0) (nI 0) (nI 0))) = 0 then nI 5 else (if (lg_cmp (f_X8_wordOf mt) (f_X8_spelt (nI 102) (nI 111) (nI 103) (nI 0) (nI 0) (nI 0) (nI 0))) = 0 then nI 6 else (if (lg_cmp (f_X8_wordOf mt) (f_X8_spelt (nI 99) (nI 108) (nI 101) (nI 97) (nI 114) (nI 0) (nI 0))) = 0 then nI 7 else (-1 : Int32)))))))))
abbrev rm_X8_verb : Room := { frames := 1, cells := 0, slots := 0, locals := 28 }
set_option maxHeartbeats 4000000 in
set_option maxRecDepth 100000 in
theorem c_X8_verb (l : Launch) (D : va_G) (cI cL cZ : ClassId) (ad : Nat → Nat) (A : Nat → Prop) (to : (Nat → Int32)) (st : (Nat → Int32)) (mt : MTx) (rd : (Nat → Int32)) (un : MUn) (kp : MKp) (rw : MKp) (se : MUn)  (hmt : mtOk mt) : Met l yX8_verb wsX8_verb rm_X8_verb (va_Pc [.ref (ad 0)] (sR D cI cL cZ A (mW cI cL cZ ad to st mt rd un kp rw se))) (vp_Si (fun r => r = (f_X8_verb mt))) 0 0 (fun _ => False) := by
  refine Met.ofW (cc := cX8_verb) (maxL := 3) (ret := (some .int)) (by decide) rfl ?_
  intro p e s m args below meth c s₁ B hml hv
  obtain ⟨rfl, hP, hK, hD, hE⟩ := hv
  have hx := B.exec
  have hb := B.bytes
  have hr := B.returns
  have hts := atoms_spec (ws := wsX8_verb) B.pre
  have hown : s.vm.findClass RX8 = some m.cls := findClass_of_methodNamed B.named
  have hlocks := B.notSynchronized
  have hl := lv_entry ([.ref (ad 0)]) (n := 3) (Nat.le_of_ble_eq_true rfl)
  rw [lg_entry_eq]
  generalize (lg_sl ([.ref (ad 0)]) ++ List.replicate (3 - (lg_sl ([.ref (ad 0)])).length) Slot.unset).toArray = ls at hl ⊢
  have hl : lv_has ls 3 [(0, .ref (ad 0))] := hl
  refine lv_aload_n hx hb dX8_verb_0 rfl (lv_at hl 0 rfl) ?_
  refine vp_callSl (va_Run.run (va_runV (As := []) (rest := []) ⟨hx, hb, hml, hown, hts⟩ (c_X8_wordOf l D cI cL cZ ad A to st mt rd un kp rw se  (by first | assumption | omega)) (cwV 0 hts gX8_verb_X8_wordOf rfl rfl rfl (by decide +kernel) ⟨Nat.le_of_ble_eq_true rfl, Nat.le_of_ble_eq_true rfl⟩) ⟨sR_fb, va_recv hK hP (ci := 8) (q0 := 0) rfl rfl, sR_at hP hK hD hE⟩ rfl rfl hl.1 rfl (lv_room (Nat.le_of_ble_eq_true rfl)) dX8_verb_1 ⟨Nat.zero_le _, Nat.zero_le _⟩)) (fun r hr => ?_)
  subst hr
  refine lv_lstore_n (lv' := [(1, .long (f_X8_wordOf mt)), (0, .ref (ad 0))]) hx hb dX8_verb_4 rfl hl (by decide) rfl (fun ls hl => ?_)
  refine lv_lload_n hx hb dX8_verb_5 rfl (lv_at hl 0 rfl) ?_
  refine lv_bipush (v := nI 99) hx hb dX8_verb_6 rfl ?_
  refine lv_bipush (v := nI 108) hx hb dX8_verb_8 rfl ?_
  refine lv_bipush (v := nI 105) hx hb dX8_verb_10 rfl ?_
  refine lv_bipush (v := nI 109) hx hb dX8_verb_12 rfl ?_
  refine lv_bipush (v := nI 98) hx hb dX8_verb_14 rfl ?_
  refine lv_bipush (v := nI 101) hx hb dX8_verb_16 rfl ?_
  refine lv_bipush (v := nI 114) hx hb dX8_verb_18 rfl ?_
  refine vp_callSl (va_Run.run (va_runS (As := [.int (nI 99), .int (nI 108), .int (nI 105), .int (nI 109), .int (nI 98), .int (nI 101), .int (nI 114)]) (rest := [.long (f_X8_wordOf mt)]) ⟨hx, hb, hml, hown, hts⟩ (c_X8_spelt l (nI 99) (nI 108) (nI 105) (nI 109) (nI 98) (nI 101) (nI 114) ) (va_cwS 7 hts gX8_verb_X8_spelt rfl rfl rfl (by decide +kernel) ⟨Nat.le_of_ble_eq_true rfl, Nat.le_of_ble_eq_true rfl⟩) ⟨pR_fb, pR_at⟩ rfl rfl hl.1 rfl (lv_room (Nat.le_of_ble_eq_true rfl)) dX8_verb_20 ⟨Nat.zero_le _, Nat.zero_le _⟩)) (fun r hr => ?_)
  subst hr
  refine W.lcmp hx hb dX8_verb_23 ?_
  refine lv_if_ne (tgt := 29) hx hb dX8_verb_24 (by decide) (fun c_1 => ?_) (fun c_1 => ?_)
  · refine lv_lload_n hx hb dX8_verb_29 rfl (lv_at hl 0 rfl) ?_
    refine lv_bipush (v := nI 103) hx hb dX8_verb_30 rfl ?_
    refine lv_bipush (v := nI 117) hx hb dX8_verb_32 rfl ?_
    refine lv_bipush (v := nI 105) hx hb dX8_verb_34 rfl ?_
    refine lv_bipush (v := nI 100) hx hb dX8_verb_36 rfl ?_
    refine lv_bipush (v := nI 101) hx hb dX8_verb_38 rfl ?_
    refine lv_iconst (v := nI 0) hx hb dX8_verb_40 rfl ?_
    refine lv_iconst (v := nI 0) hx hb dX8_verb_41 rfl ?_
    refine vp_callSl (va_Run.run (va_runS (As := [.int (nI 103), .int (nI 117), .int (nI 105), .int (nI 100), .int (nI 101), .int (nI 0), .int (nI 0)]) (rest := [.long (f_X8_wordOf mt)]) ⟨hx, hb, hml, hown, hts⟩ (c_X8_spelt l (nI 103) (nI 117) (nI 105) (nI 100) (nI 101) (nI 0) (nI 0) ) (va_cwS 7 hts gX8_verb_X8_spelt rfl rfl rfl (by decide +kernel) ⟨Nat.le_of_ble_eq_true rfl, Nat.le_of_ble_eq_true rfl⟩) ⟨pR_fb, pR_at⟩ rfl rfl hl.1 rfl (lv_room (Nat.le_of_ble_eq_true rfl)) dX8_verb_42 ⟨Nat.zero_le _, Nat.zero_le _⟩)) (fun r hr => ?_)
    subst hr
    refine W.lcmp hx hb dX8_verb_45 ?_
    refine lv_if_ne (tgt := 51) hx hb dX8_verb_46 (by decide) (fun c_2 => ?_) (fun c_2 => ?_)
    · refine lv_lload_n hx hb dX8_verb_51 rfl (lv_at hl 0 rfl) ?_
      refine lv_bipush (v := nI 109) hx hb dX8_verb_52 rfl ?_
      refine lv_bipush (v := nI 111) hx hb dX8_verb_54 rfl ?_
      refine lv_bipush (v := nI 117) hx hb dX8_verb_56 rfl ?_
      refine lv_bipush (v := nI 114) hx hb dX8_verb_58 rfl ?_
      refine lv_bipush (v := nI 110) hx hb dX8_verb_60 rfl ?_
      refine lv_bipush (v := nI 101) hx hb dX8_verb_62 rfl ?_
      refine lv_bipush (v := nI 114) hx hb dX8_verb_64 rfl ?_
      refine vp_callSl (va_Run.run (va_runS (As := [.int (nI 109), .int (nI 111), .int (nI 117), .int (nI 114), .int (nI 110), .int (nI 101), .int (nI 114)]) (rest := [.long (f_X8_wordOf mt)]) ⟨hx, hb, hml, hown, hts⟩ (c_X8_spelt l (nI 109) (nI 111) (nI 117) (nI 114) (nI 110) (nI 101) (nI 114) ) (va_cwS 7 hts gX8_verb_X8_spelt rfl rfl rfl (by decide +kernel) ⟨Nat.le_of_ble_eq_true rfl, Nat.le_of_ble_eq_true rfl⟩) ⟨pR_fb, pR_at⟩ rfl rfl hl.1 rfl (lv_room (Nat.le_of_ble_eq_true rfl)) dX8_verb_66 ⟨Nat.zero_le _, Nat.zero_le _⟩)) (fun r hr => ?_)
      subst hr
      refine W.lcmp hx hb dX8_verb_69 ?_
      refine lv_if_ne (tgt := 75) hx hb dX8_verb_70 (by decide) (fun c_3 => ?_) (fun c_3 => ?_)
      · refine lv_lload_n hx hb dX8_verb_75 rfl (lv_at hl 0 rfl) ?_
        refine lv_bipush (v := nI 98) hx hb dX8_verb_76 rfl ?_
        refine lv_bipush (v := nI 97) hx hb dX8_verb_78 rfl ?_
        refine lv_bipush (v := nI 110) hx hb dX8_verb_80 rfl ?_
        refine lv_bipush (v := nI 107) hx hb dX8_verb_82 rfl ?_
        refine lv_iconst (v := nI 0) hx hb dX8_verb_84 rfl ?_
        refine lv_iconst (v := nI 0) hx hb dX8_verb_85 rfl ?_
        refine lv_iconst (v := nI 0) hx hb dX8_verb_86 rfl ?_
        refine vp_callSl (va_Run.run (va_runS (As := [.int (nI 98), .int (nI 97), .int (nI 110), .int (nI 107), .int (nI 0), .int (nI 0), .int (nI 0)]) (rest := [.long (f_X8_wordOf mt)]) ⟨hx, hb, hml, hown, hts⟩ (c_X8_spelt l (nI 98) (nI 97) (nI 110) (nI 107) (nI 0) (nI 0) (nI 0) ) (va_cwS 7 hts gX8_verb_X8_spelt rfl rfl rfl (by decide +kernel) ⟨Nat.le_of_ble_eq_true rfl, Nat.le_of_ble_eq_true rfl⟩) ⟨pR_fb, pR_at⟩ rfl rfl hl.1 rfl (lv_room (Nat.le_of_ble_eq_true rfl)) dX8_verb_87 ⟨Nat.zero_le _, Nat.zero_le _⟩)) (fun r hr => ?_)
        subst hr
        refine W.lcmp hx hb dX8_verb_90 ?_
        refine lv_if_ne (tgt := 96) hx hb dX8_verb_91 (by decide) (fun c_4 => ?_) (fun c_4 => ?_)
        · refine lv_lload_n hx hb dX8_verb_96 rfl (lv_at hl 0 rfl) ?_
          refine lv_bipush (v := nI 116) hx hb dX8_verb_97 rfl ?_
          refine lv_bipush (v := nI 111) hx hb dX8_verb_99 rfl ?_
          refine lv_bipush (v := nI 112) hx hb dX8_verb_101 rfl ?_
          refine lv_iconst (v := nI 0) hx hb dX8_verb_103 rfl ?_
          refine lv_iconst (v := nI 0) hx hb dX8_verb_104 rfl ?_
          refine lv_iconst (v := nI 0) hx hb dX8_verb_105 rfl ?_
          refine lv_iconst (v := nI 0) hx hb dX8_verb_106 rfl ?_
          refine vp_callSl (va_Run.run (va_runS (As := [.int (nI 116), .int (nI 111), .int (nI 112), .int (nI 0), .int (nI 0), .int (nI 0), .int (nI 0)]) (rest := [.long (f_X8_wordOf mt)]) ⟨hx, hb, hml, hown, hts⟩ (c_X8_spelt l (nI 116) (nI 111) (nI 112) (nI 0) (nI 0) (nI 0) (nI 0) ) (va_cwS 7 hts gX8_verb_X8_spelt rfl rfl rfl (by decide +kernel) ⟨Nat.le_of_ble_eq_true rfl, Nat.le_of_ble_eq_true rfl⟩) ⟨pR_fb, pR_at⟩ rfl rfl hl.1 rfl (lv_room (Nat.le_of_ble_eq_true rfl)) dX8_verb_107 ⟨Nat.zero_le _, Nat.zero_le _⟩)) (fun r hr => ?_)
          subst hr
          refine W.lcmp hx hb dX8_verb_110 ?_
          refine lv_if_ne (tgt := 116) hx hb dX8_verb_111 (by decide) (fun c_5 => ?_) (fun c_5 => ?_)
          · refine lv_lload_n hx hb dX8_verb_116 rfl (lv_at hl 0 rfl) ?_
            refine lv_bipush (v := nI 100) hx hb dX8_verb_117 rfl ?_
            refine lv_bipush (v := nI 101) hx hb dX8_verb_119 rfl ?_
            refine lv_bipush (v := nI 101) hx hb dX8_verb_121 rfl ?_
            refine lv_bipush (v := nI 100) hx hb dX8_verb_123 rfl ?_
            refine lv_iconst (v := nI 0) hx hb dX8_verb_125 rfl ?_
            refine lv_iconst (v := nI 0) hx hb dX8_verb_126 rfl ?_
            refine lv_iconst (v := nI 0) hx hb dX8_verb_127 rfl ?_
            refine vp_callSl (va_Run.run (va_runS (As := [.int (nI 100), .int (nI 101), .int (nI 101), .int (nI 100), .int (nI 0), .int (nI 0), .int (nI 0)]) (rest := [.long (f_X8_wordOf mt)]) ⟨hx, hb, hml, hown, hts⟩ (c_X8_spelt l (nI 100) (nI 101) (nI 101) (nI 100) (nI 0) (nI 0) (nI 0) ) (va_cwS 7 hts gX8_verb_X8_spelt rfl rfl rfl (by decide +kernel) ⟨Nat.le_of_ble_eq_true rfl, Nat.le_of_ble_eq_true rfl⟩) ⟨pR_fb, pR_at⟩ rfl rfl hl.1 rfl (lv_room (Nat.le_of_ble_eq_true rfl)) dX8_verb_128 ⟨Nat.zero_le _, Nat.zero_le _⟩)) (fun r hr => ?_)
            subst hr
            refine W.lcmp hx hb dX8_verb_131 ?_
            refine lv_if_ne (tgt := 137) hx hb dX8_verb_132 (by decide) (fun c_6 => ?_) (fun c_6 => ?_)
            · refine lv_lload_n hx hb dX8_verb_137 rfl (lv_at hl 0 rfl) ?_
              refine lv_bipush (v := nI 102) hx hb dX8_verb_138 rfl ?_
              refine lv_bipush (v := nI 111) hx hb dX8_verb_140 rfl ?_
              refine lv_bipush (v := nI 103) hx hb dX8_verb_142 rfl ?_
              refine lv_iconst (v := nI 0) hx hb dX8_verb_144 rfl ?_
              refine lv_iconst (v := nI 0) hx hb dX8_verb_145 rfl ?_
              refine lv_iconst (v := nI 0) hx hb dX8_verb_146 rfl ?_
              refine lv_iconst (v := nI 0) hx hb dX8_verb_147 rfl ?_
              refine vp_callSl (va_Run.run (va_runS (As := [.int (nI 102), .int (nI 111), .int (nI 103), .int (nI 0), .int (nI 0), .int (nI 0), .int (nI 0)]) (rest := [.long (f_X8_wordOf mt)]) ⟨hx, hb, hml, hown, hts⟩ (c_X8_spelt l (nI 102) (nI 111) (nI 103) (nI 0) (nI 0) (nI 0) (nI 0) ) (va_cwS 7 hts gX8_verb_X8_spelt rfl rfl rfl (by decide +kernel) ⟨Nat.le_of_ble_eq_true rfl, Nat.le_of_ble_eq_true rfl⟩) ⟨pR_fb, pR_at⟩ rfl rfl hl.1 rfl (lv_room (Nat.le_of_ble_eq_true rfl)) dX8_verb_148 ⟨Nat.zero_le _, Nat.zero_le _⟩)) (fun r hr => ?_)
              subst hr
              refine W.lcmp hx hb dX8_verb_151 ?_
              refine mv_phi (v := (if (lg_cmp (f_X8_wordOf mt) (f_X8_spelt (nI 102) (nI 111) (nI 103) (nI 0) (nI 0) (nI 0) (nI 0))) = 0 then nI 6 else (if (lg_cmp (f_X8_wordOf mt) (f_X8_spelt (nI 99) (nI 108) (nI 101) (nI 97) (nI 114) (nI 0) (nI 0))) = 0 then nI 7 else (-1 : Int32)))) (pcj := 186) (ls := ls) (rest' := []) ?_ (fun J_7 => ?_)
              · exact W.iret (v := (if (lg_cmp (f_X8_wordOf mt) (f_X8_spelt (nI 102) (nI 111) (nI 103) (nI 0) (nI 0) (nI 0) (nI 0))) = 0 then nI 6 else (if (lg_cmp (f_X8_wordOf mt) (f_X8_spelt (nI 99) (nI 108) (nI 101) (nI 97) (nI 114) (nI 0) (nI 0))) = 0 then nI 7 else (-1 : Int32)))) hx hb hr (fun t ht hW => ⟨(if (lg_cmp (f_X8_wordOf mt) (f_X8_spelt (nI 102) (nI 111) (nI 103) (nI 0) (nI 0) (nI 0) (nI 0))) = 0 then nI 6 else (if (lg_cmp (f_X8_wordOf mt) (f_X8_spelt (nI 99) (nI 108) (nI 101) (nI 97) (nI 114) (nI 0) (nI 0))) = 0 then nI 7 else (-1 : Int32))), rfl, (by rw [f_X8_verb, if_neg c_1, if_neg c_2, if_neg c_3, if_neg c_4, if_neg c_5, if_neg c_6]), ht⟩) (fun _ h => by cases h) dX8_verb_186
              · refine lv_if_ne (tgt := 160) hx hb dX8_verb_152 (by decide) (fun c_8 => ?_) (fun c_8 => ?_)
                · refine lv_lload_n hx hb dX8_verb_160 rfl (lv_at hl 0 rfl) ?_
                  refine lv_bipush (v := nI 99) hx hb dX8_verb_161 rfl ?_
                  refine lv_bipush (v := nI 108) hx hb dX8_verb_163 rfl ?_
                  refine lv_bipush (v := nI 101) hx hb dX8_verb_165 rfl ?_
                  refine lv_bipush (v := nI 97) hx hb dX8_verb_167 rfl ?_
                  refine lv_bipush (v := nI 114) hx hb dX8_verb_169 rfl ?_
                  refine lv_iconst (v := nI 0) hx hb dX8_verb_171 rfl ?_
                  refine lv_iconst (v := nI 0) hx hb dX8_verb_172 rfl ?_
                  refine vp_callSl (va_Run.run (va_runS (As := [.int (nI 99), .int (nI 108), .int (nI 101), .int (nI 97), .int (nI 114), .int (nI 0), .int (nI 0)]) (rest := [.long (f_X8_wordOf mt)]) ⟨hx, hb, hml, hown, hts⟩ (c_X8_spelt l (nI 99) (nI 108) (nI 101) (nI 97) (nI 114) (nI 0) (nI 0) ) (va_cwS 7 hts gX8_verb_X8_spelt rfl rfl rfl (by decide +kernel) ⟨Nat.le_of_ble_eq_true rfl, Nat.le_of_ble_eq_true rfl⟩) ⟨pR_fb, pR_at⟩ rfl rfl hl.1 rfl (lv_room (Nat.le_of_ble_eq_true rfl)) dX8_verb_173 ⟨Nat.zero_le _, Nat.zero_le _⟩)) (fun r hr => ?_)
                  subst hr
                  refine W.lcmp hx hb dX8_verb_176 ?_
                  refine lv_if_ne (tgt := 185) hx hb dX8_verb_177 (by decide) (fun c_9 => ?_) (fun c_9 => ?_)
                  · refine lv_iconst (v := (-1)) hx hb dX8_verb_185 rfl ?_
                    exact J_7 _ (by rw [if_neg c_8, if_neg c_9])
                  · refine lv_bipush (v := nI 7) hx hb dX8_verb_180 rfl ?_
                    refine lv_goto (tgt := 186) hx hb dX8_verb_182 (by decide) ?_
                    exact J_7 _ (by rw [if_neg c_8, if_pos c_9])
                · refine lv_bipush (v := nI 6) hx hb dX8_verb_155 rfl ?_
                  refine lv_goto (tgt := 186) hx hb dX8_verb_157 (by decide) ?_
                  exact J_7 _ (by rw [if_pos c_8])
            · refine lv_iconst (v := nI 5) hx hb dX8_verb_135 rfl ?_
              exact W.iret (v := nI 5) hx hb hr (fun t ht hW => ⟨nI 5, rfl, (by rw [f_X8_verb, if_neg c_1, if_neg c_2, if_neg c_3, if_neg c_4, if_neg c_5, if_pos c_6]), ht⟩) (fun _ h => by cases h) dX8_verb_136
          · refine lv_iconst (v := nI 4) hx hb dX8_verb_114 rfl ?_
            exact W.iret (v := nI 4) hx hb hr (fun t ht hW => ⟨nI 4, rfl, (by rw [f_X8_verb, if_neg c_1, if_neg c_2, if_neg c_3, if_neg c_4, if_pos c_5]), ht⟩) (fun _ h => by cases h) dX8_verb_115
        · refine lv_iconst (v := nI 3) hx hb dX8_verb_94 rfl ?_
          exact W.iret (v := nI 3) hx hb hr (fun t ht hW => ⟨nI 3, rfl, (by rw [f_X8_verb, if_neg c_1, if_neg c_2, if_neg c_3, if_pos c_4]), ht⟩) (fun _ h => by cases h) dX8_verb_95
      · refine lv_iconst (v := nI 2) hx hb dX8_verb_73 rfl ?_
        exact W.iret (v := nI 2) hx hb hr (fun t ht hW => ⟨nI 2, rfl, (by rw [f_X8_verb, if_neg c_1, if_neg c_2, if_pos c_3]), ht⟩) (fun _ h => by cases h) dX8_verb_74
    · refine lv_iconst (v := nI 1) hx hb dX8_verb_49 rfl ?_
      exact W.iret (v := nI 1) hx hb hr (fun t ht hW => ⟨nI 1, rfl, (by rw [f_X8_verb, if_neg c_1, if_pos c_2]), ht⟩) (fun _ h => by cases h) dX8_verb_50
  · refine lv_iconst (v := nI 0) hx hb dX8_verb_27 rfl ?_
    exact W.iret (v := nI 0) hx hb hr (fun t ht hW => ⟨nI 0, rfl, (by rw [f_X8_verb, if_pos c_1]), ht⟩) (fun _ h => by cases h) dX8_verb_28
def f_X8_number (mt : MTx) (lo : Int32) (hi : Int32) : Int32 × MTx := ((if (f_X8_nextToken mt).2.2.2.1 = nI 2 then (if (f_X8_in (((f_X8_nextToken mt).2.2.2.2.1).toInt64) lo.toInt64 hi.toInt64) = 0 then (-1 : Int32) else (f_X8_nextToken mt).2.2.2.2.1) else (-1 : Int32)), (f_X8_nextToken mt))
abbrev rm_X8_number : Room := { frames := 2, cells := 0, slots := 0, locals := 45 }
set_option maxHeartbeats 4000000 in
set_option maxRecDepth 100000 in
theorem c_X8_number (l : Launch) (D : va_G) (cI cL cZ : ClassId) (ad : Nat → Nat) (A : Nat → Prop) (to : (Nat → Int32)) (st : (Nat → Int32)) (mt : MTx) (rd : (Nat → Int32)) (un : MUn) (kp : MKp) (rw : MKp) (se : MUn) (lo : Int32) (hi : Int32) (hmt : mtOk mt) : Met l yX8_number wsX8_number rm_X8_number (va_Pc [.ref (ad 0), .int lo, .int hi] (sR D cI cL cZ A (mW cI cL cZ ad to st mt rd un kp rw se))) (va_Qi (fun (r : Int32) (u : MTx) => r = (f_X8_number mt lo hi).1 ∧ u = (f_X8_number mt lo hi).2) (fun (u : MTx) t => va_P D vwCl (mW cI cL cZ ad to st u rd un kp rw se) t.heap) A) 0 0 A := by
  refine Met.ofW (cc := cX8_number) (maxL := 3) (ret := (some .int)) (by decide) rfl ?_
  intro p e s m args below meth c s₁ B hml hv
  obtain ⟨rfl, hP, hK, hD, hE⟩ := hv
  have hx := B.exec
  have hb := B.bytes
  have hr := B.returns
  have hts := atoms_spec (ws := wsX8_number) B.pre
  have hown : s.vm.findClass RX8 = some m.cls := findClass_of_methodNamed B.named
  have hlocks := B.notSynchronized
  have hS : va_S A s.heap s.heap [] := va_S.rf
  have hl := lv_entry ([.ref (ad 0), .int lo, .int hi]) (n := 3) (Nat.le_of_ble_eq_true rfl)
  rw [lg_entry_eq]
  generalize (lg_sl ([.ref (ad 0), .int lo, .int hi]) ++ List.replicate (3 - (lg_sl ([.ref (ad 0), .int lo, .int hi])).length) Slot.unset).toArray = ls at hl ⊢
  have hl : lv_has ls 3 [(0, .ref (ad 0)), (1, .int lo), (2, .int hi)] := hl
  refine lv_aload_n hx hb dX8_number_0 rfl (lv_at hl 0 rfl) ?_
  refine va_callv (va_runV (As := []) (rest := []) ⟨hx, hb, hml, hown, hts⟩ (c_X8_nextToken l D cI cL cZ ad A to st mt rd un kp rw se  (by first | assumption | omega)) (cwV 0 hts gX8_number_X8_nextToken rfl rfl rfl (by decide +kernel) ⟨Nat.le_of_ble_eq_true rfl, Nat.le_of_ble_eq_true rfl⟩) ⟨sR_fb, va_recv hK hP (ci := 8) (q0 := 0) rfl rfl, sR_at hP hK hD hE⟩ rfl rfl hl.1 rfl (lv_room (Nat.le_of_ble_eq_true rfl)) dX8_number_1 ⟨Nat.zero_le _, Nat.zero_le _⟩) hS (fun q _ h => h) (fun q h => h) (fun u t H locs ht hvm hw hB hz1 hk1 hS => ?_)
  subst hw
  rw [ht] at hB
  have hP : va_P D vwCl (mW cI cL cZ ad to st (f_X8_nextToken mt) rd un kp rw se) H := hB
  have hD : va_D A (mW cI cL cZ ad to st (f_X8_nextToken mt) rd un kp rw se) := mW_D hD
  refine lv_aload_n hx hb dX8_number_4 rfl (lv_at hl 0 rfl) ?_
  refine va_get (D := D) (ci := 8) (v := .int ((f_X8_nextToken mt).2.2.2.1)) (C := RX8) (T := TX8) (N := 18) hx hb hts (by decide +kernel) hown hK hP 0 rfl rfl 5 (by decide) (hts (.fieldLink RX8 67 "SummitTimeModel" "token" "I") (by decide +kernel)) (fun _ h9 => h9) rfl dX8_number_5 ?_
  refine lv_iconst (v := nI 2) hx hb dX8_number_8 rfl ?_
  refine mv_phi (v := (if (f_X8_nextToken mt).2.2.2.1 = nI 2 then (if (f_X8_in (((f_X8_nextToken mt).2.2.2.2.1).toInt64) lo.toInt64 hi.toInt64) = 0 then (-1 : Int32) else (f_X8_nextToken mt).2.2.2.2.1) else (-1 : Int32))) (pcj := 35) (ls := ls) (rest' := []) ?_ (fun J_1 => ?_)
  · have hf : (f_X8_number mt lo hi) = ((if (f_X8_nextToken mt).2.2.2.1 = nI 2 then (if (f_X8_in (((f_X8_nextToken mt).2.2.2.2.1).toInt64) lo.toInt64 hi.toInt64) = 0 then (-1 : Int32) else (f_X8_nextToken mt).2.2.2.2.1) else (-1 : Int32)), (f_X8_nextToken mt)) := by rw [f_X8_number]
    exact W.iret (v := (if (f_X8_nextToken mt).2.2.2.1 = nI 2 then (if (f_X8_in (((f_X8_nextToken mt).2.2.2.2.1).toInt64) lo.toInt64 hi.toInt64) = 0 then (-1 : Int32) else (f_X8_nextToken mt).2.2.2.2.1) else (-1 : Int32))) hx hb hr (fun t ht hW => ⟨⟨(if (f_X8_nextToken mt).2.2.2.1 = nI 2 then (if (f_X8_in (((f_X8_nextToken mt).2.2.2.2.1).toInt64) lo.toInt64 hi.toInt64) = 0 then (-1 : Int32) else (f_X8_nextToken mt).2.2.2.2.1) else (-1 : Int32)), (f_X8_nextToken mt), rfl, ⟨(congrArg Prod.fst hf).symm, (congrArg Prod.snd hf).symm⟩, va_Pt ht hP⟩, hS.F ht⟩) hS.2.2 dX8_number_35
  · refine lv_icmp_ne (tgt := 34) hx hb dX8_number_9 (by decide) (fun c_2 => ?_) (fun c_2 => ?_)
    · refine lv_iconst (v := (-1)) hx hb dX8_number_34 rfl ?_
      exact J_1 _ (by rw [if_neg c_2])
    · refine lv_aload_n hx hb dX8_number_12 rfl (lv_at hl 0 rfl) ?_
      refine va_get (D := D) (ci := 8) (v := .int ((f_X8_nextToken mt).2.2.2.2.1)) (C := RX8) (T := TX8) (N := 18) hx hb hts (by decide +kernel) hown hK hP 0 rfl rfl 6 (by decide) (hts (.fieldLink RX8 64 "SummitTimeModel" "value" "I") (by decide +kernel)) (fun _ h9 => h9) rfl dX8_number_13 ?_
      refine lv_i2l hx hb dX8_number_16 rfl ?_
      refine lv_iload_n hx hb dX8_number_17 rfl (lv_at hl 1 rfl) ?_
      refine lv_i2l hx hb dX8_number_18 rfl ?_
      refine lv_iload_n hx hb dX8_number_19 rfl (lv_at hl 2 rfl) ?_
      refine lv_i2l hx hb dX8_number_20 rfl ?_
      refine vp_callSi (va_Run.run (va_runS (As := [.long (((f_X8_nextToken mt).2.2.2.2.1).toInt64), .long lo.toInt64, .long hi.toInt64]) (rest := []) ⟨hx, hb, hml, hown, hts⟩ (c_X8_in l (((f_X8_nextToken mt).2.2.2.2.1).toInt64) lo.toInt64 hi.toInt64 ) (va_cwS 3 hts gX8_number_X8_in rfl rfl rfl (by decide +kernel) ⟨Nat.le_of_ble_eq_true rfl, Nat.le_of_ble_eq_true rfl⟩) ⟨pR_fb, pR_at⟩ rfl rfl hl.1 rfl (lv_room (Nat.le_of_ble_eq_true rfl)) dX8_number_21 ⟨Nat.zero_le _, Nat.zero_le _⟩)) (fun r hr => ?_)
      subst hr
      refine lv_if_eq (tgt := 34) hx hb dX8_number_24 (by decide) (fun c_3 => ?_) (fun c_3 => ?_)
      · refine lv_iconst (v := (-1)) hx hb dX8_number_34 rfl ?_
        exact J_1 _ (by rw [if_pos c_2, if_pos c_3])
      · refine lv_aload_n hx hb dX8_number_27 rfl (lv_at hl 0 rfl) ?_
        refine va_get (D := D) (ci := 8) (v := .int ((f_X8_nextToken mt).2.2.2.2.1)) (C := RX8) (T := TX8) (N := 18) hx hb hts (by decide +kernel) hown hK hP 0 rfl rfl 6 (by decide) (hts (.fieldLink RX8 64 "SummitTimeModel" "value" "I") (by decide +kernel)) (fun _ h9 => h9) rfl dX8_number_28 ?_
        refine lv_goto (tgt := 35) hx hb dX8_number_31 (by decide) ?_
        exact J_1 _ (by rw [if_pos c_2, if_neg c_3])
theorem num_ok {mt : MTx} {lo hi : Int32} (h : mtOk mt) : mtOk (f_X8_number mt lo hi).2 := nt_ok h
theorem num_le {mt : MTx} {lo hi : Int32} (c : ¬ (f_X8_number mt lo hi).1 < 0) : lo.toInt ≤ (f_X8_number mt lo hi).1.toInt ∧ (f_X8_number mt lo hi).1.toInt ≤ hi.toInt := by
  revert c
  unfold f_X8_number
  dsimp only
  split
  · split
    · intro c; exact absurd (by decide) c
    · rename_i c1
      intro c
      have c1 := Decidable.not_not.mp (fun q => c1 (in_iff.mpr q))
      rw [Int64.le_iff_toInt_le, Int64.le_iff_toInt_le, Int32.toInt_toInt64, Int32.toInt_toInt64, Int32.toInt_toInt64] at c1
      exact c1
  · intro c; exact absurd (by decide) c
theorem num_cl {mt : MTx} {lo : Int32} {H : Nat} (hH : H < 2 ^ 31) (c : ¬ (f_X8_number mt lo (nI H)).1 < 0) : (f_X8_number mt lo (nI H)).1.toNatClampNeg ≤ H := by
  have h1 := (num_le c).2
  have h2 := cl_int (f_X8_number mt lo (nI H)).1
  rw [nI_toInt hH] at h1
  omega
def f_X8_readPerson (mt : MTx) (rd : (Nat → Int32)) (ki : Int32) : Int32 × MTx × (Nat → Int32) := (if mN rd = 6 then (nI 0, mt, rd) else (if 0 ≤ (f_X8_number mt (nI 1) (nI 20)).1 then (if 0 ≤ (f_X8_number ((f_X8_number mt (nI 1) (nI 20)).2) (nI 1) (nI 6)).1 then (if 0 ≤ (f_X8_number ((f_X8_number ((f_X8_number mt (nI 1) (nI 20)).2) (nI 1) (nI 6)).2) (nI 0) (nI 20)).1 then (nI 1, ((f_X8_number ((f_X8_number ((f_X8_number mt (nI 1) (nI 20)).2) (nI 1) (nI 6)).2) (nI 0) (nI 20)).2), (upd (upd (upd (upd (upd rd (1 + (mN rd)) ki) (7 + (mN rd)) ((f_X8_number mt (nI 1) (nI 20)).1)) (13 + (mN rd)) ((f_X8_number ((f_X8_number mt (nI 1) (nI 20)).2) (nI 1) (nI 6)).1)) (19 + (mN rd)) ((f_X8_number ((f_X8_number ((f_X8_number mt (nI 1) (nI 20)).2) (nI 1) (nI 6)).2) (nI 0) (nI 20)).1)) 0 (((upd (upd (upd (upd rd (1 + (mN rd)) ki) (7 + (mN rd)) ((f_X8_number mt (nI 1) (nI 20)).1)) (13 + (mN rd)) ((f_X8_number ((f_X8_number mt (nI 1) (nI 20)).2) (nI 1) (nI 6)).1)) (19 + (mN rd)) ((f_X8_number ((f_X8_number ((f_X8_number mt (nI 1) (nI 20)).2) (nI 1) (nI 6)).2) (nI 0) (nI 20)).1)) 0) + (nI 1)))) else (nI 0, ((f_X8_number ((f_X8_number ((f_X8_number mt (nI 1) (nI 20)).2) (nI 1) (nI 6)).2) (nI 0) (nI 20)).2), rd)) else (nI 0, ((f_X8_number ((f_X8_number mt (nI 1) (nI 20)).2) (nI 1) (nI 6)).2), rd)) else (nI 0, ((f_X8_number mt (nI 1) (nI 20)).2), rd)))
theorem f_X8_readPerson_b (mt : MTx) (rd : (Nat → Int32)) (ki : Int32) : (f_X8_readPerson mt rd ki).1 = nI 0 ∨ (f_X8_readPerson mt rd ki).1 = nI 1 := by
  unfold f_X8_readPerson
  (repeat' split) <;> first | exact Or.inl rfl | exact Or.inr rfl | exact f_X8_in_b _ _ _
abbrev rm_X8_readPerson : Room := { frames := 3, cells := 0, slots := 0, locals := 67 }
set_option maxHeartbeats 4000000 in
set_option maxRecDepth 100000 in
theorem c_X8_readPerson (l : Launch) (D : va_G) (cI cL cZ : ClassId) (ad : Nat → Nat) (A : Nat → Prop) (to : (Nat → Int32)) (st : (Nat → Int32)) (mt : MTx) (rd : (Nat → Int32)) (un : MUn) (kp : MKp) (rw : MKp) (se : MUn) (ki : Int32) (hmt : mtOk mt) (hrd : rdOk rd) : Met l yX8_readPerson wsX8_readPerson rm_X8_readPerson (va_Pc [.ref (ad 0), .int ki] (sR D cI cL cZ A (mW cI cL cZ ad to st mt rd un kp rw se))) (va_Qi (fun (r : Int32) (u : MTx × (Nat → Int32)) => r = (f_X8_readPerson mt rd ki).1 ∧ u = (f_X8_readPerson mt rd ki).2) (fun (u : MTx × (Nat → Int32)) t => va_P D vwCl (mW cI cL cZ ad to st u.1 u.2 un kp rw se) t.heap) A) 0 0 A := by
  refine Met.ofW (cc := cX8_readPerson) (maxL := 6) (ret := (some .boolean)) (by decide) rfl ?_
  intro p e s m args below meth c s₁ B hml hv
  obtain ⟨rfl, hP, hK, hD, hE⟩ := hv
  have hx := B.exec
  have hb := B.bytes
  have hr := B.returns
  have hts := atoms_spec (ws := wsX8_readPerson) B.pre
  have hown : s.vm.findClass RX8 = some m.cls := findClass_of_methodNamed B.named
  have hlocks := B.notSynchronized
  have hS : va_S A s.heap s.heap [] := va_S.rf
  have hl := lv_entry ([.ref (ad 0), .int ki]) (n := 6) (Nat.le_of_ble_eq_true rfl)
  rw [lg_entry_eq]
  generalize (lg_sl ([.ref (ad 0), .int ki]) ++ List.replicate (6 - (lg_sl ([.ref (ad 0), .int ki])).length) Slot.unset).toArray = ls at hl ⊢
  have hl : lv_has ls 6 [(0, .ref (ad 0)), (1, .int ki)] := hl
  have hr6 := hrd.2
  refine lv_aload_n hx hb dX8_readPerson_0 rfl (lv_at hl 0 rfl) ?_
  refine va_get (D := D) (ci := 8) (v := .ref (ad 4)) (C := RX8) (T := TX8) (N := 18) hx hb hts (by decide +kernel) hown hK hP 0 rfl rfl 8 (by decide) (hts (.fieldLink RX8 19 "SummitTimeModel" "read" "[I") (by decide +kernel)) (fun _ h9 => h9) rfl dX8_readPerson_1 ?_
  refine lv_iconst (v := nI 0) hx hb dX8_readPerson_4 rfl ?_
  refine mv_iald (f := rd) hx hb hK hP 4 0 rfl rfl (by decide) (by decide) dX8_readPerson_5 ?_
  refine mv_top (y := nI (mN rd)) hrd.1 ?_
  refine lv_istore_n (lv' := [(2, .int (nI (mN rd))), (0, .ref (ad 0)), (1, .int ki)]) hx hb dX8_readPerson_6 rfl hl (by decide) rfl (fun ls hl => ?_)
  refine lv_iload_n hx hb dX8_readPerson_7 rfl (lv_at hl 0 rfl) ?_
  refine lv_bipush (v := nI 6) hx hb dX8_readPerson_8 rfl ?_
  refine mv_icmp_ne (tgt := 15) hx hb dX8_readPerson_10 (by decide) (by omega) (by decide) (fun c_1 => ?_) (fun c_1 => ?_)
  · refine lv_aload_n hx hb dX8_readPerson_15 rfl (lv_at hl 1 rfl) ?_
    refine lv_iconst (v := nI 1) hx hb dX8_readPerson_16 rfl ?_
    refine lv_bipush (v := nI 20) hx hb dX8_readPerson_17 rfl ?_
    refine va_calli (va_runV (As := [.int (nI 1), .int (nI 20)]) (rest := []) ⟨hx, hb, hml, hown, hts⟩ (c_X8_number l D cI cL cZ ad A to st mt rd un kp rw se (nI 1) (nI 20) hmt) (cwV 2 hts gX8_readPerson_X8_number rfl rfl rfl (by decide +kernel) ⟨Nat.le_of_ble_eq_true rfl, Nat.le_of_ble_eq_true rfl⟩) ⟨sR_fb, va_recv hK hP (ci := 8) (q0 := 0) rfl rfl, sR_at hP hK hD hE⟩ rfl rfl hl.1 rfl (lv_room (Nat.le_of_ble_eq_true rfl)) dX8_readPerson_19 ⟨Nat.zero_le _, Nat.zero_le _⟩) hS (fun q _ h => h) (fun q h => h) (fun r u t H locs ht hvm hw hB hz1 hk1 hS => ?_)
    obtain ⟨rfl, rfl⟩ := hw
    rw [ht] at hB
    have hP : va_P D vwCl (mW cI cL cZ ad to st ((f_X8_number mt (nI 1) (nI 20)).2) rd un kp rw se) H := hB
    have hD : va_D A (mW cI cL cZ ad to st ((f_X8_number mt (nI 1) (nI 20)).2) rd un kp rw se) := mW_D hD
    refine lv_istore_n (lv' := [(3, .int ((f_X8_number mt (nI 1) (nI 20)).1)), (2, .int (nI (mN rd))), (0, .ref (ad 0)), (1, .int ki)]) hx hb dX8_readPerson_22 rfl hl (by decide) rfl (fun ls hl => ?_)
    refine lv_iload_n hx hb dX8_readPerson_23 rfl (lv_at hl 0 rfl) ?_
    refine lv_if_ge (tgt := 31) hx hb dX8_readPerson_24 (by decide) (fun c_2 => ?_) (fun c_2 => ?_)
    · refine lv_aload_n hx hb dX8_readPerson_31 rfl (lv_at hl 2 rfl) ?_
      refine lv_iconst (v := nI 1) hx hb dX8_readPerson_32 rfl ?_
      refine lv_bipush (v := nI 6) hx hb dX8_readPerson_33 rfl ?_
      refine va_calli (va_runV (As := [.int (nI 1), .int (nI 6)]) (rest := []) ⟨hx, hb, hml, hown, hts⟩ (c_X8_number l D cI cL cZ ad A to st ((f_X8_number mt (nI 1) (nI 20)).2) rd un kp rw se (nI 1) (nI 6) (num_ok hmt)) (cwV 2 hts gX8_readPerson_X8_number rfl rfl rfl (by decide +kernel) ⟨Nat.le_of_ble_eq_true rfl, Nat.le_of_ble_eq_true rfl⟩) ⟨sR_fb, va_recv hK hP (ci := 8) (q0 := 0) rfl rfl, sR_at hP hK hD hE⟩ rfl rfl hl.1 rfl (lv_room (Nat.le_of_ble_eq_true rfl)) dX8_readPerson_35 ⟨Nat.zero_le _, Nat.zero_le _⟩) hS (fun q _ h => h) (fun q h => h) (fun r u t H locs ht hvm hw hB hz1 hk1 hS => ?_)
      obtain ⟨rfl, rfl⟩ := hw
      rw [ht] at hB
      have hP : va_P D vwCl (mW cI cL cZ ad to st ((f_X8_number ((f_X8_number mt (nI 1) (nI 20)).2) (nI 1) (nI 6)).2) rd un kp rw se) H := hB
      have hD : va_D A (mW cI cL cZ ad to st ((f_X8_number ((f_X8_number mt (nI 1) (nI 20)).2) (nI 1) (nI 6)).2) rd un kp rw se) := mW_D hD
      refine lv_istore (lv' := [(4, .int ((f_X8_number ((f_X8_number mt (nI 1) (nI 20)).2) (nI 1) (nI 6)).1)), (3, .int ((f_X8_number mt (nI 1) (nI 20)).1)), (2, .int (nI (mN rd))), (0, .ref (ad 0)), (1, .int ki)]) hx hb dX8_readPerson_38 hl (by decide) rfl (fun ls hl => ?_)
      refine lv_iload hx hb dX8_readPerson_40 (lv_at hl 0 rfl) ?_
      refine lv_if_ge (tgt := 49) hx hb dX8_readPerson_42 (by decide) (fun c_3 => ?_) (fun c_3 => ?_)
      · refine lv_aload_n hx hb dX8_readPerson_49 rfl (lv_at hl 3 rfl) ?_
        refine lv_iconst (v := nI 0) hx hb dX8_readPerson_50 rfl ?_
        refine lv_bipush (v := nI 20) hx hb dX8_readPerson_51 rfl ?_
        refine va_calli (va_runV (As := [.int (nI 0), .int (nI 20)]) (rest := []) ⟨hx, hb, hml, hown, hts⟩ (c_X8_number l D cI cL cZ ad A to st ((f_X8_number ((f_X8_number mt (nI 1) (nI 20)).2) (nI 1) (nI 6)).2) rd un kp rw se (nI 0) (nI 20) (num_ok (num_ok hmt))) (cwV 2 hts gX8_readPerson_X8_number rfl rfl rfl (by decide +kernel) ⟨Nat.le_of_ble_eq_true rfl, Nat.le_of_ble_eq_true rfl⟩) ⟨sR_fb, va_recv hK hP (ci := 8) (q0 := 0) rfl rfl, sR_at hP hK hD hE⟩ rfl rfl hl.1 rfl (lv_room (Nat.le_of_ble_eq_true rfl)) dX8_readPerson_53 ⟨Nat.zero_le _, Nat.zero_le _⟩) hS (fun q _ h => h) (fun q h => h) (fun r u t H locs ht hvm hw hB hz1 hk1 hS => ?_)
        obtain ⟨rfl, rfl⟩ := hw
        rw [ht] at hB
        have hP : va_P D vwCl (mW cI cL cZ ad to st ((f_X8_number ((f_X8_number ((f_X8_number mt (nI 1) (nI 20)).2) (nI 1) (nI 6)).2) (nI 0) (nI 20)).2) rd un kp rw se) H := hB
        have hD : va_D A (mW cI cL cZ ad to st ((f_X8_number ((f_X8_number ((f_X8_number mt (nI 1) (nI 20)).2) (nI 1) (nI 6)).2) (nI 0) (nI 20)).2) rd un kp rw se) := mW_D hD
        refine lv_istore (lv' := [(5, .int ((f_X8_number ((f_X8_number ((f_X8_number mt (nI 1) (nI 20)).2) (nI 1) (nI 6)).2) (nI 0) (nI 20)).1)), (4, .int ((f_X8_number ((f_X8_number mt (nI 1) (nI 20)).2) (nI 1) (nI 6)).1)), (3, .int ((f_X8_number mt (nI 1) (nI 20)).1)), (2, .int (nI (mN rd))), (0, .ref (ad 0)), (1, .int ki)]) hx hb dX8_readPerson_56 hl (by decide) rfl (fun ls hl => ?_)
        refine lv_iload hx hb dX8_readPerson_58 (lv_at hl 0 rfl) ?_
        refine lv_if_ge (tgt := 65) hx hb dX8_readPerson_60 (by decide) (fun c_4 => ?_) (fun c_4 => ?_)
        · refine lv_aload_n hx hb dX8_readPerson_65 rfl (lv_at hl 4 rfl) ?_
          refine va_get (D := D) (ci := 8) (v := .ref (ad 4)) (C := RX8) (T := TX8) (N := 18) hx hb hts (by decide +kernel) hown hK hP 0 rfl rfl 8 (by decide) (hts (.fieldLink RX8 19 "SummitTimeModel" "read" "[I") (by decide +kernel)) (fun _ h9 => h9) rfl dX8_readPerson_66 ?_
          refine lv_iconst (v := nI 1) hx hb dX8_readPerson_69 rfl ?_
          refine lv_iload_n hx hb dX8_readPerson_70 rfl (lv_at hl 3 rfl) ?_
          refine mv_iadd hx hb dX8_readPerson_71 ?_
          refine lv_iload_n hx hb dX8_readPerson_72 rfl (lv_at hl 5 rfl) ?_
          refine mv_iast (f := rd) hx hb hK hP hD hS 4 0 rfl rfl (by omega) (by decide) dX8_readPerson_73 (fun H locs hP hD hS => ?_)
          have hP : va_P D vwCl (mW cI cL cZ ad to st ((f_X8_number ((f_X8_number ((f_X8_number mt (nI 1) (nI 20)).2) (nI 1) (nI 6)).2) (nI 0) (nI 20)).2) (upd rd (1 + (mN rd)) ki) un kp rw se) H := hP
          have hD : va_D A (mW cI cL cZ ad to st ((f_X8_number ((f_X8_number ((f_X8_number mt (nI 1) (nI 20)).2) (nI 1) (nI 6)).2) (nI 0) (nI 20)).2) (upd rd (1 + (mN rd)) ki) un kp rw se) := hD
          refine lv_aload_n hx hb dX8_readPerson_74 rfl (lv_at hl 4 rfl) ?_
          refine va_get (D := D) (ci := 8) (v := .ref (ad 4)) (C := RX8) (T := TX8) (N := 18) hx hb hts (by decide +kernel) hown hK hP 0 rfl rfl 8 (by decide) (hts (.fieldLink RX8 19 "SummitTimeModel" "read" "[I") (by decide +kernel)) (fun _ h9 => h9) rfl dX8_readPerson_75 ?_
          refine lv_bipush (v := nI 7) hx hb dX8_readPerson_78 rfl ?_
          refine lv_iload_n hx hb dX8_readPerson_80 rfl (lv_at hl 3 rfl) ?_
          refine mv_iadd hx hb dX8_readPerson_81 ?_
          refine lv_iload_n hx hb dX8_readPerson_82 rfl (lv_at hl 2 rfl) ?_
          refine mv_iast (f := (upd rd (1 + (mN rd)) ki)) hx hb hK hP hD hS 4 0 rfl rfl (by omega) (by decide) dX8_readPerson_83 (fun H locs hP hD hS => ?_)
          have hP : va_P D vwCl (mW cI cL cZ ad to st ((f_X8_number ((f_X8_number ((f_X8_number mt (nI 1) (nI 20)).2) (nI 1) (nI 6)).2) (nI 0) (nI 20)).2) (upd (upd rd (1 + (mN rd)) ki) (7 + (mN rd)) ((f_X8_number mt (nI 1) (nI 20)).1)) un kp rw se) H := hP
          have hD : va_D A (mW cI cL cZ ad to st ((f_X8_number ((f_X8_number ((f_X8_number mt (nI 1) (nI 20)).2) (nI 1) (nI 6)).2) (nI 0) (nI 20)).2) (upd (upd rd (1 + (mN rd)) ki) (7 + (mN rd)) ((f_X8_number mt (nI 1) (nI 20)).1)) un kp rw se) := hD
          refine lv_aload_n hx hb dX8_readPerson_84 rfl (lv_at hl 4 rfl) ?_
          refine va_get (D := D) (ci := 8) (v := .ref (ad 4)) (C := RX8) (T := TX8) (N := 18) hx hb hts (by decide +kernel) hown hK hP 0 rfl rfl 8 (by decide) (hts (.fieldLink RX8 19 "SummitTimeModel" "read" "[I") (by decide +kernel)) (fun _ h9 => h9) rfl dX8_readPerson_85 ?_
          refine lv_bipush (v := nI 13) hx hb dX8_readPerson_88 rfl ?_
          refine lv_iload_n hx hb dX8_readPerson_90 rfl (lv_at hl 3 rfl) ?_
          refine mv_iadd hx hb dX8_readPerson_91 ?_
          refine lv_iload hx hb dX8_readPerson_92 (lv_at hl 1 rfl) ?_
          refine mv_iast (f := (upd (upd rd (1 + (mN rd)) ki) (7 + (mN rd)) ((f_X8_number mt (nI 1) (nI 20)).1))) hx hb hK hP hD hS 4 0 rfl rfl (by omega) (by decide) dX8_readPerson_94 (fun H locs hP hD hS => ?_)
          have hP : va_P D vwCl (mW cI cL cZ ad to st ((f_X8_number ((f_X8_number ((f_X8_number mt (nI 1) (nI 20)).2) (nI 1) (nI 6)).2) (nI 0) (nI 20)).2) (upd (upd (upd rd (1 + (mN rd)) ki) (7 + (mN rd)) ((f_X8_number mt (nI 1) (nI 20)).1)) (13 + (mN rd)) ((f_X8_number ((f_X8_number mt (nI 1) (nI 20)).2) (nI 1) (nI 6)).1)) un kp rw se) H := hP
          have hD : va_D A (mW cI cL cZ ad to st ((f_X8_number ((f_X8_number ((f_X8_number mt (nI 1) (nI 20)).2) (nI 1) (nI 6)).2) (nI 0) (nI 20)).2) (upd (upd (upd rd (1 + (mN rd)) ki) (7 + (mN rd)) ((f_X8_number mt (nI 1) (nI 20)).1)) (13 + (mN rd)) ((f_X8_number ((f_X8_number mt (nI 1) (nI 20)).2) (nI 1) (nI 6)).1)) un kp rw se) := hD
          refine lv_aload_n hx hb dX8_readPerson_95 rfl (lv_at hl 4 rfl) ?_
          refine va_get (D := D) (ci := 8) (v := .ref (ad 4)) (C := RX8) (T := TX8) (N := 18) hx hb hts (by decide +kernel) hown hK hP 0 rfl rfl 8 (by decide) (hts (.fieldLink RX8 19 "SummitTimeModel" "read" "[I") (by decide +kernel)) (fun _ h9 => h9) rfl dX8_readPerson_96 ?_
          refine lv_bipush (v := nI 19) hx hb dX8_readPerson_99 rfl ?_
          refine lv_iload_n hx hb dX8_readPerson_101 rfl (lv_at hl 3 rfl) ?_
          refine mv_iadd hx hb dX8_readPerson_102 ?_
          refine lv_iload hx hb dX8_readPerson_103 (lv_at hl 0 rfl) ?_
          refine mv_iast (f := (upd (upd (upd rd (1 + (mN rd)) ki) (7 + (mN rd)) ((f_X8_number mt (nI 1) (nI 20)).1)) (13 + (mN rd)) ((f_X8_number ((f_X8_number mt (nI 1) (nI 20)).2) (nI 1) (nI 6)).1))) hx hb hK hP hD hS 4 0 rfl rfl (by omega) (by decide) dX8_readPerson_105 (fun H locs hP hD hS => ?_)
          have hP : va_P D vwCl (mW cI cL cZ ad to st ((f_X8_number ((f_X8_number ((f_X8_number mt (nI 1) (nI 20)).2) (nI 1) (nI 6)).2) (nI 0) (nI 20)).2) (upd (upd (upd (upd rd (1 + (mN rd)) ki) (7 + (mN rd)) ((f_X8_number mt (nI 1) (nI 20)).1)) (13 + (mN rd)) ((f_X8_number ((f_X8_number mt (nI 1) (nI 20)).2) (nI 1) (nI 6)).1)) (19 + (mN rd)) ((f_X8_number ((f_X8_number ((f_X8_number mt (nI 1) (nI 20)).2) (nI 1) (nI 6)).2) (nI 0) (nI 20)).1)) un kp rw se) H := hP
          have hD : va_D A (mW cI cL cZ ad to st ((f_X8_number ((f_X8_number ((f_X8_number mt (nI 1) (nI 20)).2) (nI 1) (nI 6)).2) (nI 0) (nI 20)).2) (upd (upd (upd (upd rd (1 + (mN rd)) ki) (7 + (mN rd)) ((f_X8_number mt (nI 1) (nI 20)).1)) (13 + (mN rd)) ((f_X8_number ((f_X8_number mt (nI 1) (nI 20)).2) (nI 1) (nI 6)).1)) (19 + (mN rd)) ((f_X8_number ((f_X8_number ((f_X8_number mt (nI 1) (nI 20)).2) (nI 1) (nI 6)).2) (nI 0) (nI 20)).1)) un kp rw se) := hD
          refine lv_aload_n hx hb dX8_readPerson_106 rfl (lv_at hl 4 rfl) ?_
          refine va_get (D := D) (ci := 8) (v := .ref (ad 4)) (C := RX8) (T := TX8) (N := 18) hx hb hts (by decide +kernel) hown hK hP 0 rfl rfl 8 (by decide) (hts (.fieldLink RX8 19 "SummitTimeModel" "read" "[I") (by decide +kernel)) (fun _ h9 => h9) rfl dX8_readPerson_107 ?_
          refine lv_iconst (v := nI 0) hx hb dX8_readPerson_110 rfl ?_
          refine lv_dup2_11 hx hb dX8_readPerson_111 rfl rfl ?_
          refine mv_iald (f := (upd (upd (upd (upd rd (1 + (mN rd)) ki) (7 + (mN rd)) ((f_X8_number mt (nI 1) (nI 20)).1)) (13 + (mN rd)) ((f_X8_number ((f_X8_number mt (nI 1) (nI 20)).2) (nI 1) (nI 6)).1)) (19 + (mN rd)) ((f_X8_number ((f_X8_number ((f_X8_number mt (nI 1) (nI 20)).2) (nI 1) (nI 6)).2) (nI 0) (nI 20)).1))) hx hb hK hP 4 0 rfl rfl (by decide) (by decide) dX8_readPerson_112 ?_
          refine lv_iconst (v := nI 1) hx hb dX8_readPerson_113 rfl ?_
          refine lv_iadd hx hb dX8_readPerson_114 ?_
          refine mv_iast (f := (upd (upd (upd (upd rd (1 + (mN rd)) ki) (7 + (mN rd)) ((f_X8_number mt (nI 1) (nI 20)).1)) (13 + (mN rd)) ((f_X8_number ((f_X8_number mt (nI 1) (nI 20)).2) (nI 1) (nI 6)).1)) (19 + (mN rd)) ((f_X8_number ((f_X8_number ((f_X8_number mt (nI 1) (nI 20)).2) (nI 1) (nI 6)).2) (nI 0) (nI 20)).1))) hx hb hK hP hD hS 4 0 rfl rfl (by decide) (by decide) dX8_readPerson_115 (fun H locs hP hD hS => ?_)
          have hP : va_P D vwCl (mW cI cL cZ ad to st ((f_X8_number ((f_X8_number ((f_X8_number mt (nI 1) (nI 20)).2) (nI 1) (nI 6)).2) (nI 0) (nI 20)).2) (upd (upd (upd (upd (upd rd (1 + (mN rd)) ki) (7 + (mN rd)) ((f_X8_number mt (nI 1) (nI 20)).1)) (13 + (mN rd)) ((f_X8_number ((f_X8_number mt (nI 1) (nI 20)).2) (nI 1) (nI 6)).1)) (19 + (mN rd)) ((f_X8_number ((f_X8_number ((f_X8_number mt (nI 1) (nI 20)).2) (nI 1) (nI 6)).2) (nI 0) (nI 20)).1)) 0 (((upd (upd (upd (upd rd (1 + (mN rd)) ki) (7 + (mN rd)) ((f_X8_number mt (nI 1) (nI 20)).1)) (13 + (mN rd)) ((f_X8_number ((f_X8_number mt (nI 1) (nI 20)).2) (nI 1) (nI 6)).1)) (19 + (mN rd)) ((f_X8_number ((f_X8_number ((f_X8_number mt (nI 1) (nI 20)).2) (nI 1) (nI 6)).2) (nI 0) (nI 20)).1)) 0) + (nI 1))) un kp rw se) H := hP
          have hD : va_D A (mW cI cL cZ ad to st ((f_X8_number ((f_X8_number ((f_X8_number mt (nI 1) (nI 20)).2) (nI 1) (nI 6)).2) (nI 0) (nI 20)).2) (upd (upd (upd (upd (upd rd (1 + (mN rd)) ki) (7 + (mN rd)) ((f_X8_number mt (nI 1) (nI 20)).1)) (13 + (mN rd)) ((f_X8_number ((f_X8_number mt (nI 1) (nI 20)).2) (nI 1) (nI 6)).1)) (19 + (mN rd)) ((f_X8_number ((f_X8_number ((f_X8_number mt (nI 1) (nI 20)).2) (nI 1) (nI 6)).2) (nI 0) (nI 20)).1)) 0 (((upd (upd (upd (upd rd (1 + (mN rd)) ki) (7 + (mN rd)) ((f_X8_number mt (nI 1) (nI 20)).1)) (13 + (mN rd)) ((f_X8_number ((f_X8_number mt (nI 1) (nI 20)).2) (nI 1) (nI 6)).1)) (19 + (mN rd)) ((f_X8_number ((f_X8_number ((f_X8_number mt (nI 1) (nI 20)).2) (nI 1) (nI 6)).2) (nI 0) (nI 20)).1)) 0) + (nI 1))) un kp rw se) := hD
          refine lv_iconst (v := nI 1) hx hb dX8_readPerson_116 rfl ?_
          have hf : (f_X8_readPerson mt rd ki) = (nI 1, ((f_X8_number ((f_X8_number ((f_X8_number mt (nI 1) (nI 20)).2) (nI 1) (nI 6)).2) (nI 0) (nI 20)).2), (upd (upd (upd (upd (upd rd (1 + (mN rd)) ki) (7 + (mN rd)) ((f_X8_number mt (nI 1) (nI 20)).1)) (13 + (mN rd)) ((f_X8_number ((f_X8_number mt (nI 1) (nI 20)).2) (nI 1) (nI 6)).1)) (19 + (mN rd)) ((f_X8_number ((f_X8_number ((f_X8_number mt (nI 1) (nI 20)).2) (nI 1) (nI 6)).2) (nI 0) (nI 20)).1)) 0 (((upd (upd (upd (upd rd (1 + (mN rd)) ki) (7 + (mN rd)) ((f_X8_number mt (nI 1) (nI 20)).1)) (13 + (mN rd)) ((f_X8_number ((f_X8_number mt (nI 1) (nI 20)).2) (nI 1) (nI 6)).1)) (19 + (mN rd)) ((f_X8_number ((f_X8_number ((f_X8_number mt (nI 1) (nI 20)).2) (nI 1) (nI 6)).2) (nI 0) (nI 20)).1)) 0) + (nI 1)))) := by rw [f_X8_readPerson, if_neg c_1, if_pos c_2, if_pos c_3, if_pos c_4]
          exact W.zret (v := nI 1) (ty := .boolean) hx hb hr rfl (fun t ht hW => ⟨⟨nI 1, (((f_X8_number ((f_X8_number ((f_X8_number mt (nI 1) (nI 20)).2) (nI 1) (nI 6)).2) (nI 0) (nI 20)).2), (upd (upd (upd (upd (upd rd (1 + (mN rd)) ki) (7 + (mN rd)) ((f_X8_number mt (nI 1) (nI 20)).1)) (13 + (mN rd)) ((f_X8_number ((f_X8_number mt (nI 1) (nI 20)).2) (nI 1) (nI 6)).1)) (19 + (mN rd)) ((f_X8_number ((f_X8_number ((f_X8_number mt (nI 1) (nI 20)).2) (nI 1) (nI 6)).2) (nI 0) (nI 20)).1)) 0 (((upd (upd (upd (upd rd (1 + (mN rd)) ki) (7 + (mN rd)) ((f_X8_number mt (nI 1) (nI 20)).1)) (13 + (mN rd)) ((f_X8_number ((f_X8_number mt (nI 1) (nI 20)).2) (nI 1) (nI 6)).1)) (19 + (mN rd)) ((f_X8_number ((f_X8_number ((f_X8_number mt (nI 1) (nI 20)).2) (nI 1) (nI 6)).2) (nI 0) (nI 20)).1)) 0) + (nI 1)))), rfl, ⟨(congrArg Prod.fst hf).symm, (congrArg Prod.snd hf).symm⟩, va_Pt ht hP⟩, hS.F ht⟩) hS.2.2 dX8_readPerson_117
        · refine lv_iconst (v := nI 0) hx hb dX8_readPerson_63 rfl ?_
          have hf : (f_X8_readPerson mt rd ki) = (nI 0, ((f_X8_number ((f_X8_number ((f_X8_number mt (nI 1) (nI 20)).2) (nI 1) (nI 6)).2) (nI 0) (nI 20)).2), rd) := by rw [f_X8_readPerson, if_neg c_1, if_pos c_2, if_pos c_3, if_neg c_4]
          exact W.zret (v := nI 0) (ty := .boolean) hx hb hr rfl (fun t ht hW => ⟨⟨nI 0, (((f_X8_number ((f_X8_number ((f_X8_number mt (nI 1) (nI 20)).2) (nI 1) (nI 6)).2) (nI 0) (nI 20)).2), rd), rfl, ⟨(congrArg Prod.fst hf).symm, (congrArg Prod.snd hf).symm⟩, va_Pt ht hP⟩, hS.F ht⟩) hS.2.2 dX8_readPerson_64
      · refine lv_iconst (v := (-1)) hx hb dX8_readPerson_45 rfl ?_
        refine lv_goto (tgt := 56) hx hb dX8_readPerson_46 (by decide) ?_
        refine lv_istore (lv' := [(5, .int (-1 : Int32)), (4, .int ((f_X8_number ((f_X8_number mt (nI 1) (nI 20)).2) (nI 1) (nI 6)).1)), (3, .int ((f_X8_number mt (nI 1) (nI 20)).1)), (2, .int (nI (mN rd))), (0, .ref (ad 0)), (1, .int ki)]) hx hb dX8_readPerson_56 hl (by decide) rfl (fun ls hl => ?_)
        refine lv_iload hx hb dX8_readPerson_58 (lv_at hl 0 rfl) ?_
        refine lv_if_ge (tgt := 65) hx hb dX8_readPerson_60 (by decide) (fun c_5 => absurd c_5 (by decide)) (fun c_5 => ?_)
        refine lv_iconst (v := nI 0) hx hb dX8_readPerson_63 rfl ?_
        have hf : (f_X8_readPerson mt rd ki) = (nI 0, ((f_X8_number ((f_X8_number mt (nI 1) (nI 20)).2) (nI 1) (nI 6)).2), rd) := by rw [f_X8_readPerson, if_neg c_1, if_pos c_2, if_neg c_3]
        exact W.zret (v := nI 0) (ty := .boolean) hx hb hr rfl (fun t ht hW => ⟨⟨nI 0, (((f_X8_number ((f_X8_number mt (nI 1) (nI 20)).2) (nI 1) (nI 6)).2), rd), rfl, ⟨(congrArg Prod.fst hf).symm, (congrArg Prod.snd hf).symm⟩, va_Pt ht hP⟩, hS.F ht⟩) hS.2.2 dX8_readPerson_64
    · refine lv_iconst (v := (-1)) hx hb dX8_readPerson_27 rfl ?_
      refine lv_goto (tgt := 38) hx hb dX8_readPerson_28 (by decide) ?_
      refine lv_istore (lv' := [(4, .int (-1 : Int32)), (3, .int ((f_X8_number mt (nI 1) (nI 20)).1)), (2, .int (nI (mN rd))), (0, .ref (ad 0)), (1, .int ki)]) hx hb dX8_readPerson_38 hl (by decide) rfl (fun ls hl => ?_)
      refine lv_iload hx hb dX8_readPerson_40 (lv_at hl 0 rfl) ?_
      refine mv_phi (v := (-1 : Int32)) (pcj := 56) (ls := ls) (rest' := []) ?_ (fun J_7 => ?_)
      · refine lv_istore (lv' := [(5, .int (-1 : Int32)), (4, .int (-1 : Int32)), (3, .int ((f_X8_number mt (nI 1) (nI 20)).1)), (2, .int (nI (mN rd))), (0, .ref (ad 0)), (1, .int ki)]) hx hb dX8_readPerson_56 hl (by decide) rfl (fun ls hl => ?_)
        refine lv_iload hx hb dX8_readPerson_58 (lv_at hl 0 rfl) ?_
        refine lv_if_ge (tgt := 65) hx hb dX8_readPerson_60 (by decide) (fun c_6 => absurd c_6 (by decide)) (fun c_6 => ?_)
        refine lv_iconst (v := nI 0) hx hb dX8_readPerson_63 rfl ?_
        have hf : (f_X8_readPerson mt rd ki) = (nI 0, ((f_X8_number mt (nI 1) (nI 20)).2), rd) := by rw [f_X8_readPerson, if_neg c_1, if_neg c_2]
        exact W.zret (v := nI 0) (ty := .boolean) hx hb hr rfl (fun t ht hW => ⟨⟨nI 0, (((f_X8_number mt (nI 1) (nI 20)).2), rd), rfl, ⟨(congrArg Prod.fst hf).symm, (congrArg Prod.snd hf).symm⟩, va_Pt ht hP⟩, hS.F ht⟩) hS.2.2 dX8_readPerson_64
      · refine lv_if_ge (tgt := 49) hx hb dX8_readPerson_42 (by decide) (fun c_8 => absurd c_8 (by decide)) (fun c_8 => ?_)
        refine lv_iconst (v := (-1)) hx hb dX8_readPerson_45 rfl ?_
        refine lv_goto (tgt := 56) hx hb dX8_readPerson_46 (by decide) ?_
        exact J_7 _ rfl
  · refine lv_iconst (v := nI 0) hx hb dX8_readPerson_13 rfl ?_
    have hf : (f_X8_readPerson mt rd ki) = (nI 0, mt, rd) := by rw [f_X8_readPerson, if_pos c_1]
    exact W.zret (v := nI 0) (ty := .boolean) hx hb hr rfl (fun t ht hW => ⟨⟨nI 0, (mt, rd), rfl, ⟨(congrArg Prod.fst hf).symm, (congrArg Prod.snd hf).symm⟩, va_Pt ht hP⟩, hS.F ht⟩) hS.2.2 dX8_readPerson_14
def L_X8_fill_3 (at_ : Nat) (vv : Int32) : Nat → Nat → (Nat → Int32) → (Nat → Int32)
  | 0, _, wrd0_3 => wrd0_3
  | n_3 + 1, k_3, wrd0_3 => (L_X8_fill_3 at_ vv n_3 (k_3 + 1) (upd wrd0_3 (at_ + k_3) vv))
def f_X8_fill (rd : (Nat → Int32)) (at_ : Nat) (fr : Nat) (to_ : Nat) (vv : Int32) : (Nat → Int32) := (L_X8_fill_3 at_ vv (to_ + 1 - fr) fr rd)
abbrev rm_X8_fill : Room := { frames := 0, cells := 0, slots := 0, locals := 0 }
set_option maxHeartbeats 4000000 in
set_option maxRecDepth 100000 in
theorem c_X8_fill (l : Launch) (D : va_G) (cI cL cZ : ClassId) (ad : Nat → Nat) (A : Nat → Prop) (to : (Nat → Int32)) (st : (Nat → Int32)) (mt : MTx) (rd : (Nat → Int32)) (un : MUn) (kp : MKp) (rw : MKp) (se : MUn) (at_ : Nat) (fr : Nat) (to_ : Nat) (vv : Int32) (hat : at_ ≤ 85) (hfr : fr ≤ 59) (hto : to_ ≤ 59) : Met l yX8_fill wsX8_fill rm_X8_fill (va_Pc [.ref (ad 0), .int (nI at_), .int (nI fr), .int (nI to_), .int vv] (sR D cI cL cZ A (mW cI cL cZ ad to st mt rd un kp rw se))) (va_Qv (fun (u : (Nat → Int32)) => u = (f_X8_fill rd at_ fr to_ vv)) (fun (u : (Nat → Int32)) t => va_P D vwCl (mW cI cL cZ ad to st mt u un kp rw se) t.heap) A) 0 0 A := by
  refine Met.ofW (cc := cX8_fill) (maxL := 6) (ret := none) (by decide) rfl ?_
  intro p e s m args below meth c s₁ B hml hv
  obtain ⟨rfl, hP, hK, hD, hE⟩ := hv
  have hx := B.exec
  have hb := B.bytes
  have hr := B.returns
  have hts := atoms_spec (ws := wsX8_fill) B.pre
  have hown : s.vm.findClass RX8 = some m.cls := findClass_of_methodNamed B.named
  have hlocks := B.notSynchronized
  have hS : va_S A s.heap s.heap [] := va_S.rf
  have hl := lv_entry ([.ref (ad 0), .int (nI at_), .int (nI fr), .int (nI to_), .int vv]) (n := 6) (Nat.le_of_ble_eq_true rfl)
  rw [lg_entry_eq]
  generalize (lg_sl ([.ref (ad 0), .int (nI at_), .int (nI fr), .int (nI to_), .int vv]) ++ List.replicate (6 - (lg_sl ([.ref (ad 0), .int (nI at_), .int (nI fr), .int (nI to_), .int vv])).length) Slot.unset).toArray = ls at hl ⊢
  have hl : lv_has ls 6 [(0, .ref (ad 0)), (1, .int (nI at_)), (2, .int (nI fr)), (3, .int (nI to_)), (4, .int vv)] := hl
  obtain ⟨Q, hQe⟩ : ∃ Q, Q = MQ below (va_Qv (fun (u : (Nat → Int32)) => u = (f_X8_fill rd at_ fr to_ vv)) (fun (u : (Nat → Int32)) t => va_P D vwCl (mW cI cL cZ ad to st mt u un kp rw se) t.heap) A) ([.ref (ad 0), .int (nI at_), .int (nI fr), .int (nI to_), .int vv] : List Value).toArray s 0 0 A := ⟨_, rfl⟩
  show W p l e (headSpec wsX8_fill rm_X8_fill).room s m ([.ref (ad 0), .int (nI at_), .int (nI fr), .int (nI to_), .int vv] : List Value).toArray below meth c s.heap [] 0 0 (MQ below (va_Qv (fun (u : (Nat → Int32)) => u = (f_X8_fill rd at_ fr to_ vv)) (fun (u : (Nat → Int32)) t => va_P D vwCl (mW cI cL cZ ad to st mt u un kp rw se) t.heap) A) ([.ref (ad 0), .int (nI at_), .int (nI fr), .int (nI to_), .int vv] : List Value).toArray s 0 0 A) (F0 m 0 ls [])
  rw [← hQe]
  refine lv_iload_n hx hb dX8_fill_0 rfl (lv_at hl 2 rfl) ?_
  refine lv_istore (lv' := [(5, .int (nI fr)), (0, .ref (ad 0)), (1, .int (nI at_)), (2, .int (nI fr)), (3, .int (nI to_)), (4, .int vv)]) hx hb dX8_fill_1 hl (by decide) rfl (fun ls hl => ?_)
  obtain ⟨T_3_1, hT_3_1⟩ : ∃ z, z = (L_X8_fill_3 at_ vv (to_ + 1 - fr) fr rd) := ⟨_, rfl⟩
  have hexit_3 : ∀ (H : Heap) (locs : List Loc) (ls : Array Slot), va_P D vwCl (mW cI cL cZ ad to st mt T_3_1 un kp rw se) H → va_S A s.heap H locs → lv_has ls 6 [(0, .ref (ad 0)), (1, .int (nI at_)), (2, .int (nI fr)), (3, .int (nI to_)), (4, .int vv)] → W p l e (headSpec wsX8_fill rm_X8_fill).room s m ([.ref (ad 0), .int (nI at_), .int (nI fr), .int (nI to_), .int vv] : List Value).toArray below meth c H locs 0 0 Q (F0 m 26 ls []) := by
    intro H locs ls hP hS hl
    have hD : va_D A (mW cI cL cZ ad to st mt T_3_1 un kp rw se) := mW_D hD
    subst hT_3_1
    subst hQe
    have hf : (f_X8_fill rd at_ fr to_ vv) = (L_X8_fill_3 at_ vv (to_ + 1 - fr) fr rd) := by rw [f_X8_fill]
    exact W.vret hx hb hr (fun t ht hW => ⟨⟨(L_X8_fill_3 at_ vv (to_ + 1 - fr) fr rd), rfl, hf.symm, va_Pt ht hP⟩, hS.F ht⟩) hS.2.2 dX8_fill_26
  have loop_3 : ∀ (n_3 : Nat) (k_3 : Nat) (wrd0_3 : Nat → Int32), ((k_3 + n_3 = to_ + 1 ∨ (n_3 = 0 ∧ to_ < k_3 ∧ k_3 ≤ 60))) → L_X8_fill_3 at_ vv n_3 k_3 wrd0_3 = T_3_1 → ∀ (H : Heap) (locs : List Loc) (ls : Array Slot), va_P D vwCl (mW cI cL cZ ad to st mt wrd0_3 un kp rw se) H → va_S A s.heap H locs → lv_has ls 6 [(5, .int (nI k_3)), (0, .ref (ad 0)), (1, .int (nI at_)), (2, .int (nI fr)), (3, .int (nI to_)), (4, .int vv)] → W p l e (headSpec wsX8_fill rm_X8_fill).room s m ([.ref (ad 0), .int (nI at_), .int (nI fr), .int (nI to_), .int vv] : List Value).toArray below meth c H locs 0 0 Q (F0 m 3 ls []) := by
    intro n_3
    induction n_3 with
    | zero =>
      intro k_3 wrd0_3 hk3 hL_3 H locs ls hP hS hl
      have hD : va_D A (mW cI cL cZ ad to st mt wrd0_3 un kp rw se) := mW_D hD
      refine lv_iload hx hb dX8_fill_3 (lv_at hl 0 rfl) ?_
      refine lv_iload_n hx hb dX8_fill_5 rfl (lv_at hl 4 rfl) ?_
      refine mv_icmp_gt (tgt := 26) hx hb dX8_fill_6 (by decide) (by omega) (by omega) (fun c_2 => ?_) (fun c_2 => (by omega : False).elim)
      have e9 : T_3_1 = wrd0_3 := by rw [← hL_3, L_X8_fill_3]
      have hq := hexit_3
      rw [e9] at hq
      exact hq _ _ ls  hP hS (lv_sub hl [1, 2, 3, 4, 5] rfl)
    | succ n_3 ih_3 =>
      intro k_3 wrd0_3 hk3 hL_3 H locs ls hP hS hl
      have hD : va_D A (mW cI cL cZ ad to st mt wrd0_3 un kp rw se) := mW_D hD
      refine lv_iload hx hb dX8_fill_3 (lv_at hl 0 rfl) ?_
      refine lv_iload_n hx hb dX8_fill_5 rfl (lv_at hl 4 rfl) ?_
      refine mv_icmp_gt (tgt := 26) hx hb dX8_fill_6 (by decide) (by omega) (by omega) (fun c_1 => (by omega : False).elim) (fun c_1 => ?_)
      refine lv_aload_n hx hb dX8_fill_9 rfl (lv_at hl 1 rfl) ?_
      refine va_get (D := D) (ci := 8) (v := .ref (ad 4)) (C := RX8) (T := TX8) (N := 18) hx hb hts (by decide +kernel) hown hK hP 0 rfl rfl 8 (by decide) (hts (.fieldLink RX8 19 "SummitTimeModel" "read" "[I") (by decide +kernel)) (fun _ h9 => h9) rfl dX8_fill_10 ?_
      refine lv_iload_n hx hb dX8_fill_13 rfl (lv_at hl 2 rfl) ?_
      refine lv_iload hx hb dX8_fill_14 (lv_at hl 0 rfl) ?_
      refine mv_iadd hx hb dX8_fill_16 ?_
      refine lv_iload hx hb dX8_fill_17 (lv_at hl 5 rfl) ?_
      refine mv_iast (f := wrd0_3) hx hb hK hP hD hS 4 0 rfl rfl (by omega) (by decide) dX8_fill_19 (fun H locs hP hD hS => ?_)
      have hP : va_P D vwCl (mW cI cL cZ ad to st mt (upd wrd0_3 (at_ + k_3) vv) un kp rw se) H := hP
      have hD : va_D A (mW cI cL cZ ad to st mt (upd wrd0_3 (at_ + k_3) vv) un kp rw se) := hD
      refine mv_iinc (y := k_3 + 1) (lv' := [(5, .int (nI (k_3 + 1))), (0, .ref (ad 0)), (1, .int (nI at_)), (2, .int (nI fr)), (3, .int (nI to_)), (4, .int vv)]) hx hb dX8_fill_20 hl (k := 0) rfl (nI_p1 _) (by decide) rfl (fun ls hl => ?_)
      refine lv_goto (tgt := 3) hx hb dX8_fill_23 (by decide) ?_
      exact ih_3 (k_3 + 1) (upd wrd0_3 (at_ + k_3) vv) (by omega) (by have e9 := hL_3; rw [L_X8_fill_3] at e9; exact e9) _ _ ls hP hS (lv_sub hl [0, 1, 2, 3, 4, 5] rfl)
  exact loop_3 (to_ + 1 - fr) fr rd (by omega) hT_3_1.symm _ _ ls hP hS (lv_sub hl [0, 1, 2, 3, 4, 5] rfl)
def f_X8_readSpan (mt : MTx) (rd : (Nat → Int32)) (at_ : Nat) (vv : Int32) : Int32 × MTx × (Nat → Int32) := (if 0 ≤ (f_X8_number mt (nI 0) (nI 59)).1 then (if 0 ≤ (f_X8_number ((f_X8_number mt (nI 0) (nI 59)).2) ((f_X8_number mt (nI 0) (nI 59)).1) (nI 59)).1 then (nI 1, ((f_X8_number ((f_X8_number mt (nI 0) (nI 59)).2) ((f_X8_number mt (nI 0) (nI 59)).1) (nI 59)).2), (f_X8_fill rd at_ ((f_X8_number mt (nI 0) (nI 59)).1.toNatClampNeg) ((f_X8_number ((f_X8_number mt (nI 0) (nI 59)).2) ((f_X8_number mt (nI 0) (nI 59)).1) (nI 59)).1.toNatClampNeg) vv)) else (nI 0, ((f_X8_number ((f_X8_number mt (nI 0) (nI 59)).2) ((f_X8_number mt (nI 0) (nI 59)).1) (nI 59)).2), rd)) else (nI 0, ((f_X8_number mt (nI 0) (nI 59)).2), rd))
theorem f_X8_readSpan_b (mt : MTx) (rd : (Nat → Int32)) (at_ : Nat) (vv : Int32) : (f_X8_readSpan mt rd at_ vv).1 = nI 0 ∨ (f_X8_readSpan mt rd at_ vv).1 = nI 1 := by
  unfold f_X8_readSpan
  (repeat' split) <;> first | exact Or.inl rfl | exact Or.inr rfl | exact f_X8_in_b _ _ _
abbrev rm_X8_readSpan : Room := { frames := 3, cells := 0, slots := 0, locals := 67 }
set_option maxHeartbeats 4000000 in
set_option maxRecDepth 100000 in
theorem c_X8_readSpan (l : Launch) (D : va_G) (cI cL cZ : ClassId) (ad : Nat → Nat) (A : Nat → Prop) (to : (Nat → Int32)) (st : (Nat → Int32)) (mt : MTx) (rd : (Nat → Int32)) (un : MUn) (kp : MKp) (rw : MKp) (se : MUn) (at_ : Nat) (vv : Int32) (hmt : mtOk mt) (hat : at_ ≤ 85) : Met l yX8_readSpan wsX8_readSpan rm_X8_readSpan (va_Pc [.ref (ad 0), .int (nI at_), .int vv] (sR D cI cL cZ A (mW cI cL cZ ad to st mt rd un kp rw se))) (va_Qi (fun (r : Int32) (u : MTx × (Nat → Int32)) => r = (f_X8_readSpan mt rd at_ vv).1 ∧ u = (f_X8_readSpan mt rd at_ vv).2) (fun (u : MTx × (Nat → Int32)) t => va_P D vwCl (mW cI cL cZ ad to st u.1 u.2 un kp rw se) t.heap) A) 0 0 A := by
  refine Met.ofW (cc := cX8_readSpan) (maxL := 5) (ret := (some .boolean)) (by decide) rfl ?_
  intro p e s m args below meth c s₁ B hml hv
  obtain ⟨rfl, hP, hK, hD, hE⟩ := hv
  have hx := B.exec
  have hb := B.bytes
  have hr := B.returns
  have hts := atoms_spec (ws := wsX8_readSpan) B.pre
  have hown : s.vm.findClass RX8 = some m.cls := findClass_of_methodNamed B.named
  have hlocks := B.notSynchronized
  have hS : va_S A s.heap s.heap [] := va_S.rf
  have hl := lv_entry ([.ref (ad 0), .int (nI at_), .int vv]) (n := 5) (Nat.le_of_ble_eq_true rfl)
  rw [lg_entry_eq]
  generalize (lg_sl ([.ref (ad 0), .int (nI at_), .int vv]) ++ List.replicate (5 - (lg_sl ([.ref (ad 0), .int (nI at_), .int vv])).length) Slot.unset).toArray = ls at hl ⊢
  have hl : lv_has ls 5 [(0, .ref (ad 0)), (1, .int (nI at_)), (2, .int vv)] := hl
  refine lv_aload_n hx hb dX8_readSpan_0 rfl (lv_at hl 0 rfl) ?_
  refine lv_iconst (v := nI 0) hx hb dX8_readSpan_1 rfl ?_
  refine lv_bipush (v := nI 59) hx hb dX8_readSpan_2 rfl ?_
  refine va_calli (va_runV (As := [.int (nI 0), .int (nI 59)]) (rest := []) ⟨hx, hb, hml, hown, hts⟩ (c_X8_number l D cI cL cZ ad A to st mt rd un kp rw se (nI 0) (nI 59) hmt) (cwV 2 hts gX8_readSpan_X8_number rfl rfl rfl (by decide +kernel) ⟨Nat.le_of_ble_eq_true rfl, Nat.le_of_ble_eq_true rfl⟩) ⟨sR_fb, va_recv hK hP (ci := 8) (q0 := 0) rfl rfl, sR_at hP hK hD hE⟩ rfl rfl hl.1 rfl (lv_room (Nat.le_of_ble_eq_true rfl)) dX8_readSpan_4 ⟨Nat.zero_le _, Nat.zero_le _⟩) hS (fun q _ h => h) (fun q h => h) (fun r u t H locs ht hvm hw hB hz1 hk1 hS => ?_)
  obtain ⟨rfl, rfl⟩ := hw
  rw [ht] at hB
  have hP : va_P D vwCl (mW cI cL cZ ad to st ((f_X8_number mt (nI 0) (nI 59)).2) rd un kp rw se) H := hB
  have hD : va_D A (mW cI cL cZ ad to st ((f_X8_number mt (nI 0) (nI 59)).2) rd un kp rw se) := mW_D hD
  refine lv_istore_n (lv' := [(3, .int ((f_X8_number mt (nI 0) (nI 59)).1)), (0, .ref (ad 0)), (1, .int (nI at_)), (2, .int vv)]) hx hb dX8_readSpan_7 rfl hl (by decide) rfl (fun ls hl => ?_)
  refine lv_iload_n hx hb dX8_readSpan_8 rfl (lv_at hl 0 rfl) ?_
  refine lv_if_ge (tgt := 16) hx hb dX8_readSpan_9 (by decide) (fun c_1 => ?_) (fun c_1 => ?_)
  · refine lv_aload_n hx hb dX8_readSpan_16 rfl (lv_at hl 1 rfl) ?_
    refine lv_iload_n hx hb dX8_readSpan_17 rfl (lv_at hl 0 rfl) ?_
    refine lv_bipush (v := nI 59) hx hb dX8_readSpan_18 rfl ?_
    refine va_calli (va_runV (As := [.int ((f_X8_number mt (nI 0) (nI 59)).1), .int (nI 59)]) (rest := []) ⟨hx, hb, hml, hown, hts⟩ (c_X8_number l D cI cL cZ ad A to st ((f_X8_number mt (nI 0) (nI 59)).2) rd un kp rw se ((f_X8_number mt (nI 0) (nI 59)).1) (nI 59) (num_ok hmt)) (cwV 2 hts gX8_readSpan_X8_number rfl rfl rfl (by decide +kernel) ⟨Nat.le_of_ble_eq_true rfl, Nat.le_of_ble_eq_true rfl⟩) ⟨sR_fb, va_recv hK hP (ci := 8) (q0 := 0) rfl rfl, sR_at hP hK hD hE⟩ rfl rfl hl.1 rfl (lv_room (Nat.le_of_ble_eq_true rfl)) dX8_readSpan_20 ⟨Nat.zero_le _, Nat.zero_le _⟩) hS (fun q _ h => h) (fun q h => h) (fun r u t H locs ht hvm hw hB hz1 hk1 hS => ?_)
    obtain ⟨rfl, rfl⟩ := hw
    rw [ht] at hB
    have hP : va_P D vwCl (mW cI cL cZ ad to st ((f_X8_number ((f_X8_number mt (nI 0) (nI 59)).2) ((f_X8_number mt (nI 0) (nI 59)).1) (nI 59)).2) rd un kp rw se) H := hB
    have hD : va_D A (mW cI cL cZ ad to st ((f_X8_number ((f_X8_number mt (nI 0) (nI 59)).2) ((f_X8_number mt (nI 0) (nI 59)).1) (nI 59)).2) rd un kp rw se) := mW_D hD
    refine lv_istore (lv' := [(4, .int ((f_X8_number ((f_X8_number mt (nI 0) (nI 59)).2) ((f_X8_number mt (nI 0) (nI 59)).1) (nI 59)).1)), (3, .int ((f_X8_number mt (nI 0) (nI 59)).1)), (0, .ref (ad 0)), (1, .int (nI at_)), (2, .int vv)]) hx hb dX8_readSpan_23 hl (by decide) rfl (fun ls hl => ?_)
    refine lv_iload hx hb dX8_readSpan_25 (lv_at hl 0 rfl) ?_
    refine lv_if_ge (tgt := 32) hx hb dX8_readSpan_27 (by decide) (fun c_2 => ?_) (fun c_2 => ?_)
    · have hA := num_cl (by decide) (Int32.not_lt.mpr c_1)
      have hB := num_cl (by decide) (Int32.not_lt.mpr c_2)
      refine lv_aload_n hx hb dX8_readSpan_32 rfl (lv_at hl 2 rfl) ?_
      refine lv_iload_n hx hb dX8_readSpan_33 rfl (lv_at hl 3 rfl) ?_
      refine lv_iload_n hx hb dX8_readSpan_34 rfl (lv_at hl 1 rfl) ?_
      refine mv_top (y := nI ((f_X8_number mt (nI 0) (nI 59)).1.toNatClampNeg)) (nI_nn (Int32.not_lt.mpr c_1)) ?_
      refine lv_iload hx hb dX8_readSpan_35 (lv_at hl 0 rfl) ?_
      refine mv_top (y := nI ((f_X8_number ((f_X8_number mt (nI 0) (nI 59)).2) ((f_X8_number mt (nI 0) (nI 59)).1) (nI 59)).1.toNatClampNeg)) (nI_nn (Int32.not_lt.mpr c_2)) ?_
      refine lv_iload_n hx hb dX8_readSpan_37 rfl (lv_at hl 4 rfl) ?_
      refine va_callv (va_runV (As := [.int (nI at_), .int (nI ((f_X8_number mt (nI 0) (nI 59)).1.toNatClampNeg)), .int (nI ((f_X8_number ((f_X8_number mt (nI 0) (nI 59)).2) ((f_X8_number mt (nI 0) (nI 59)).1) (nI 59)).1.toNatClampNeg)), .int vv]) (rest := []) ⟨hx, hb, hml, hown, hts⟩ (c_X8_fill l D cI cL cZ ad A to st ((f_X8_number ((f_X8_number mt (nI 0) (nI 59)).2) ((f_X8_number mt (nI 0) (nI 59)).1) (nI 59)).2) rd un kp rw se at_ ((f_X8_number mt (nI 0) (nI 59)).1.toNatClampNeg) ((f_X8_number ((f_X8_number mt (nI 0) (nI 59)).2) ((f_X8_number mt (nI 0) (nI 59)).1) (nI 59)).1.toNatClampNeg) vv (by first | assumption | omega) (by first | assumption | omega) (by first | assumption | omega)) (cwV 4 hts gX8_readSpan_X8_fill rfl rfl rfl (by decide +kernel) ⟨Nat.le_of_ble_eq_true rfl, Nat.le_of_ble_eq_true rfl⟩) ⟨sR_fb, va_recv hK hP (ci := 8) (q0 := 0) rfl rfl, sR_at hP hK hD hE⟩ rfl rfl hl.1 rfl (lv_room (Nat.le_of_ble_eq_true rfl)) dX8_readSpan_38 ⟨Nat.zero_le _, Nat.zero_le _⟩) hS (fun q _ h => h) (fun q h => h) (fun u t H locs ht hvm hw hB hz1 hk1 hS => ?_)
      subst hw
      rw [ht] at hB
      have hP : va_P D vwCl (mW cI cL cZ ad to st ((f_X8_number ((f_X8_number mt (nI 0) (nI 59)).2) ((f_X8_number mt (nI 0) (nI 59)).1) (nI 59)).2) (f_X8_fill rd at_ ((f_X8_number mt (nI 0) (nI 59)).1.toNatClampNeg) ((f_X8_number ((f_X8_number mt (nI 0) (nI 59)).2) ((f_X8_number mt (nI 0) (nI 59)).1) (nI 59)).1.toNatClampNeg) vv) un kp rw se) H := hB
      have hD : va_D A (mW cI cL cZ ad to st ((f_X8_number ((f_X8_number mt (nI 0) (nI 59)).2) ((f_X8_number mt (nI 0) (nI 59)).1) (nI 59)).2) (f_X8_fill rd at_ ((f_X8_number mt (nI 0) (nI 59)).1.toNatClampNeg) ((f_X8_number ((f_X8_number mt (nI 0) (nI 59)).2) ((f_X8_number mt (nI 0) (nI 59)).1) (nI 59)).1.toNatClampNeg) vv) un kp rw se) := mW_D hD
      refine lv_iconst (v := nI 1) hx hb dX8_readSpan_41 rfl ?_
      have hf : (f_X8_readSpan mt rd at_ vv) = (nI 1, ((f_X8_number ((f_X8_number mt (nI 0) (nI 59)).2) ((f_X8_number mt (nI 0) (nI 59)).1) (nI 59)).2), (f_X8_fill rd at_ ((f_X8_number mt (nI 0) (nI 59)).1.toNatClampNeg) ((f_X8_number ((f_X8_number mt (nI 0) (nI 59)).2) ((f_X8_number mt (nI 0) (nI 59)).1) (nI 59)).1.toNatClampNeg) vv)) := by rw [f_X8_readSpan, if_pos c_1, if_pos c_2]
      exact W.zret (v := nI 1) (ty := .boolean) hx hb hr rfl (fun t ht hW => ⟨⟨nI 1, (((f_X8_number ((f_X8_number mt (nI 0) (nI 59)).2) ((f_X8_number mt (nI 0) (nI 59)).1) (nI 59)).2), (f_X8_fill rd at_ ((f_X8_number mt (nI 0) (nI 59)).1.toNatClampNeg) ((f_X8_number ((f_X8_number mt (nI 0) (nI 59)).2) ((f_X8_number mt (nI 0) (nI 59)).1) (nI 59)).1.toNatClampNeg) vv)), rfl, ⟨(congrArg Prod.fst hf).symm, (congrArg Prod.snd hf).symm⟩, va_Pt ht hP⟩, hS.F ht⟩) hS.2.2 dX8_readSpan_42
    · refine lv_iconst (v := nI 0) hx hb dX8_readSpan_30 rfl ?_
      have hf : (f_X8_readSpan mt rd at_ vv) = (nI 0, ((f_X8_number ((f_X8_number mt (nI 0) (nI 59)).2) ((f_X8_number mt (nI 0) (nI 59)).1) (nI 59)).2), rd) := by rw [f_X8_readSpan, if_pos c_1, if_neg c_2]
      exact W.zret (v := nI 0) (ty := .boolean) hx hb hr rfl (fun t ht hW => ⟨⟨nI 0, (((f_X8_number ((f_X8_number mt (nI 0) (nI 59)).2) ((f_X8_number mt (nI 0) (nI 59)).1) (nI 59)).2), rd), rfl, ⟨(congrArg Prod.fst hf).symm, (congrArg Prod.snd hf).symm⟩, va_Pt ht hP⟩, hS.F ht⟩) hS.2.2 dX8_readSpan_31
  · refine lv_iconst (v := (-1)) hx hb dX8_readSpan_12 rfl ?_
    refine lv_goto (tgt := 23) hx hb dX8_readSpan_13 (by decide) ?_
    refine lv_istore (lv' := [(4, .int (-1 : Int32)), (3, .int ((f_X8_number mt (nI 0) (nI 59)).1)), (0, .ref (ad 0)), (1, .int (nI at_)), (2, .int vv)]) hx hb dX8_readSpan_23 hl (by decide) rfl (fun ls hl => ?_)
    refine lv_iload hx hb dX8_readSpan_25 (lv_at hl 0 rfl) ?_
    refine lv_if_ge (tgt := 32) hx hb dX8_readSpan_27 (by decide) (fun c_3 => absurd c_3 (by decide)) (fun c_3 => ?_)
    refine lv_iconst (v := nI 0) hx hb dX8_readSpan_30 rfl ?_
    have hf : (f_X8_readSpan mt rd at_ vv) = (nI 0, ((f_X8_number mt (nI 0) (nI 59)).2), rd) := by rw [f_X8_readSpan, if_neg c_1]
    exact W.zret (v := nI 0) (ty := .boolean) hx hb hr rfl (fun t ht hW => ⟨⟨nI 0, (((f_X8_number mt (nI 0) (nI 59)).2), rd), rfl, ⟨(congrArg Prod.fst hf).symm, (congrArg Prod.snd hf).symm⟩, va_Pt ht hP⟩, hS.F ht⟩) hS.2.2 dX8_readSpan_31
