def L_X8_keep_15 (st : (Nat → Int32)) (kk : Int32) : Nat → Nat → (Nat → Int32) → (Nat → Int32)
  | 0, _, wkp1_15 => wkp1_15
  | n_15 + 1, k_15, wkp1_15 => (L_X8_keep_15 st kk n_15 (k_15 + 1) (upd wkp1_15 ((73 * kk.toNatClampNeg) + k_15) (st k_15)))
def f_X8_keep (st : (Nat → Int32)) (kp : MKp) (kk : Int32) : Int32 × MKp := (if (f_X8_in kk.toInt64 (0 : Int64) (1 : Int64)) = 0 then ((-2 : Int32), kp) else ((st 72), ((upd kp.1 kk.toNatClampNeg (vp_nar .boolean (nI 1))), (L_X8_keep_15 st kk 73 0 kp.2))))
abbrev rm_X8_keep : Room := { frames := 1, cells := 0, slots := 0, locals := 25 }
set_option maxHeartbeats 4000000 in
set_option maxRecDepth 100000 in
theorem c_X8_keep (l : Launch) (D : va_G) (cI cL cZ : ClassId) (ad : Nat → Nat) (A : Nat → Prop) (to : (Nat → Int32)) (st : (Nat → Int32)) (mt : MTx) (rd : (Nat → Int32)) (un : MUn) (kp : MKp) (rw : MKp) (se : MUn) (kk : Int32)  : Met l yX8_keep wsX8_keep rm_X8_keep (va_Pc [.ref (ad 0), .int kk] (sR D cI cL cZ A (mW cI cL cZ ad to st mt rd un kp rw se))) (va_Qi (fun (r : Int32) (u : MKp) => r = (f_X8_keep st kp kk).1 ∧ u = (f_X8_keep st kp kk).2) (fun (u : MKp) t => va_P D vwCl (mW cI cL cZ ad to st mt rd un u rw se) t.heap) A) 0 0 A := by
  refine Met.ofW (cc := cX8_keep) (maxL := 3) (ret := (some .int)) (by decide) rfl ?_
  intro p e s m args below meth c s₁ B hml hv
  obtain ⟨rfl, hP, hK, hD, hE⟩ := hv
  have hx := B.exec
  have hb := B.bytes
  have hr := B.returns
  have hts := atoms_spec (ws := wsX8_keep) B.pre
  have hown : s.vm.findClass RX8 = some m.cls := findClass_of_methodNamed B.named
  have hlocks := B.notSynchronized
  have hS : va_S A s.heap s.heap [] := va_S.rf
  have hl := lv_entry ([.ref (ad 0), .int kk]) (n := 3) (Nat.le_of_ble_eq_true rfl)
  rw [lg_entry_eq]
  generalize (lg_sl ([.ref (ad 0), .int kk]) ++ List.replicate (3 - (lg_sl ([.ref (ad 0), .int kk])).length) Slot.unset).toArray = ls at hl ⊢
  have hl : lv_has ls 3 [(0, .ref (ad 0)), (1, .int kk)] := hl
  obtain ⟨Q, hQe⟩ : ∃ Q, Q = MQ below (va_Qi (fun (r : Int32) (u : MKp) => r = (f_X8_keep st kp kk).1 ∧ u = (f_X8_keep st kp kk).2) (fun (u : MKp) t => va_P D vwCl (mW cI cL cZ ad to st mt rd un u rw se) t.heap) A) ([.ref (ad 0), .int kk] : List Value).toArray s 0 0 A := ⟨_, rfl⟩
  show W p l e (headSpec wsX8_keep rm_X8_keep).room s m ([.ref (ad 0), .int kk] : List Value).toArray below meth c s.heap [] 0 0 (MQ below (va_Qi (fun (r : Int32) (u : MKp) => r = (f_X8_keep st kp kk).1 ∧ u = (f_X8_keep st kp kk).2) (fun (u : MKp) t => va_P D vwCl (mW cI cL cZ ad to st mt rd un u rw se) t.heap) A) ([.ref (ad 0), .int kk] : List Value).toArray s 0 0 A) (F0 m 0 ls [])
  rw [← hQe]
  refine lv_iload_n hx hb dX8_keep_0 rfl (lv_at hl 1 rfl) ?_
  refine lv_i2l hx hb dX8_keep_1 rfl ?_
  refine lv_lconst (v := 0) hx hb dX8_keep_2 rfl ?_
  refine lv_lconst (v := 1) hx hb dX8_keep_3 rfl ?_
  refine vp_callSi (va_Run.run (va_runS (As := [.long kk.toInt64, .long (0 : Int64), .long (1 : Int64)]) (rest := []) ⟨hx, hb, hml, hown, hts⟩ (c_X8_in l kk.toInt64 (0 : Int64) (1 : Int64) ) (va_cwS 3 hts gX8_keep_X8_in rfl rfl rfl (by decide +kernel) ⟨Nat.le_of_ble_eq_true rfl, Nat.le_of_ble_eq_true rfl⟩) ⟨pR_fb, pR_at⟩ rfl rfl hl.1 rfl (lv_room (Nat.le_of_ble_eq_true rfl)) dX8_keep_4 ⟨Nat.zero_le _, Nat.zero_le _⟩)) (fun r hr => ?_)
  subst hr
  refine lv_if_ne (tgt := 13) hx hb dX8_keep_7 (by decide) (fun c_1 => ?_) (fun c_1 => ?_)
  · have hkl : kk.toNatClampNeg < 2 := in_lt (by decide) c_1
    have hl : lv_has ls 3 [(0, .ref (ad 0)), (1, .int (nI kk.toNatClampNeg))] := by have h9 := hl; rw [in_nat c_1] at h9; exact h9
    refine lv_iconst (v := nI 0) hx hb dX8_keep_13 rfl ?_
    refine lv_istore_n (lv' := [(2, .int (nI 0)), (0, .ref (ad 0)), (1, .int (nI kk.toNatClampNeg))]) hx hb dX8_keep_14 rfl hl (by decide) rfl (fun ls hl => ?_)
    obtain ⟨T_15_1, hT_15_1⟩ : ∃ z, z = (L_X8_keep_15 st kk 73 0 kp.2) := ⟨_, rfl⟩
    have hexit_15 : ∀ (H : Heap) (locs : List Loc) (ls : Array Slot), va_P D vwCl (mW cI cL cZ ad to st mt rd un (kp.1, T_15_1) rw se) H → va_S A s.heap H locs → lv_has ls 3 [(0, .ref (ad 0)), (1, .int (nI kk.toNatClampNeg))] → W p l e (headSpec wsX8_keep rm_X8_keep).room s m ([.ref (ad 0), .int kk] : List Value).toArray below meth c H locs 0 0 Q (F0 m 44 ls []) := by
      intro H locs ls hP hS hl
      have hD : va_D A (mW cI cL cZ ad to st mt rd un (kp.1, T_15_1) rw se) := mW_D hD
      refine lv_aload_n hx hb dX8_keep_44 rfl (lv_at hl 0 rfl) ?_
      refine va_get (D := D) (ci := 8) (v := .ref (ad 6)) (C := RX8) (T := TX8) (N := 18) hx hb hts (by decide +kernel) hown hK hP 0 rfl rfl 12 (by decide) (hts (.fieldLink RX8 25 "SummitTimeModel" "isKept" "[Z") (by decide +kernel)) (fun _ h9 => h9) rfl dX8_keep_45 ?_
      refine lv_iload_n hx hb dX8_keep_48 rfl (lv_at hl 1 rfl) ?_
      refine lv_iconst (v := nI 1) hx hb dX8_keep_49 rfl ?_
      refine mv_zast (f := kp.1) hx hb hK hP hD hS 6 2 rfl rfl (by omega) (by decide) dX8_keep_50 (fun H locs hP hD hS => ?_)
      have hP : va_P D vwCl (mW cI cL cZ ad to st mt rd un ((upd kp.1 kk.toNatClampNeg (vp_nar .boolean (nI 1))), T_15_1) rw se) H := hP
      have hD : va_D A (mW cI cL cZ ad to st mt rd un ((upd kp.1 kk.toNatClampNeg (vp_nar .boolean (nI 1))), T_15_1) rw se) := hD
      refine lv_aload_n hx hb dX8_keep_51 rfl (lv_at hl 0 rfl) ?_
      refine va_get (D := D) (ci := 8) (v := .ref (ad 2)) (C := RX8) (T := TX8) (N := 18) hx hb hts (by decide +kernel) hown hK hP 0 rfl rfl 1 (by decide) (hts (.fieldLink RX8 13 "SummitTimeModel" "st" "[I") (by decide +kernel)) (fun _ h9 => h9) rfl dX8_keep_52 ?_
      refine lv_bipush (v := nI 72) hx hb dX8_keep_55 rfl ?_
      refine mv_iald (f := st) hx hb hK hP 2 0 rfl rfl (by decide) (by decide) dX8_keep_57 ?_
      subst hQe
      have hf : (f_X8_keep st kp kk) = ((st 72), ((upd kp.1 kk.toNatClampNeg (vp_nar .boolean (nI 1))), T_15_1)) := by subst hT_15_1; rw [f_X8_keep, if_neg c_1]
      exact W.iret (v := (st 72)) hx hb hr (fun t ht hW => ⟨⟨(st 72), ((upd kp.1 kk.toNatClampNeg (vp_nar .boolean (nI 1))), T_15_1), rfl, ⟨(congrArg Prod.fst hf).symm, (congrArg Prod.snd hf).symm⟩, va_Pt ht hP⟩, hS.F ht⟩) hS.2.2 dX8_keep_58
    have loop_15 : ∀ (n_15 : Nat) (k_15 : Nat) (wkp1_15 : Nat → Int32), (k_15 + n_15 = 73) → L_X8_keep_15 st kk n_15 k_15 wkp1_15 = T_15_1 → ∀ (H : Heap) (locs : List Loc) (ls : Array Slot), va_P D vwCl (mW cI cL cZ ad to st mt rd un (kp.1, wkp1_15) rw se) H → va_S A s.heap H locs → lv_has ls 3 [(2, .int (nI k_15)), (0, .ref (ad 0)), (1, .int (nI kk.toNatClampNeg))] → W p l e (headSpec wsX8_keep rm_X8_keep).room s m ([.ref (ad 0), .int kk] : List Value).toArray below meth c H locs 0 0 Q (F0 m 15 ls []) := by
      intro n_15
      induction n_15 with
      | zero =>
        intro k_15 wkp1_15 hk_15 hL_15 H locs ls hP hS hl
        have hD : va_D A (mW cI cL cZ ad to st mt rd un (kp.1, wkp1_15) rw se) := mW_D hD
        refine lv_iload_n hx hb dX8_keep_15 rfl (lv_at hl 0 rfl) ?_
        refine lv_bipush (v := nI 73) hx hb dX8_keep_16 rfl ?_
        refine mv_icmp_ge (tgt := 44) hx hb dX8_keep_18 (by decide) (by omega) (by decide) (fun c_3 => ?_) (fun c_3 => (by omega : False).elim)
        have e9 : T_15_1 = wkp1_15 := by rw [← hL_15, L_X8_keep_15]
        have hq := hexit_15
        rw [e9] at hq
        exact hq _ _ ls  hP hS (lv_sub hl [1, 2] rfl)
      | succ n_15 ih_15 =>
        intro k_15 wkp1_15 hk_15 hL_15 H locs ls hP hS hl
        have hD : va_D A (mW cI cL cZ ad to st mt rd un (kp.1, wkp1_15) rw se) := mW_D hD
        refine lv_iload_n hx hb dX8_keep_15 rfl (lv_at hl 0 rfl) ?_
        refine lv_bipush (v := nI 73) hx hb dX8_keep_16 rfl ?_
        refine mv_icmp_ge (tgt := 44) hx hb dX8_keep_18 (by decide) (by omega) (by decide) (fun c_2 => (by omega : False).elim) (fun c_2 => ?_)
        refine lv_aload_n hx hb dX8_keep_21 rfl (lv_at hl 1 rfl) ?_
        refine va_get (D := D) (ci := 8) (v := .ref (ad 7)) (C := RX8) (T := TX8) (N := 18) hx hb hts (by decide +kernel) hown hK hP 0 rfl rfl 13 (by decide) (hts (.fieldLink RX8 29 "SummitTimeModel" "kept" "[I") (by decide +kernel)) (fun _ h9 => h9) rfl dX8_keep_22 ?_
        refine lv_bipush (v := nI 73) hx hb dX8_keep_25 rfl ?_
        refine lv_iload_n hx hb dX8_keep_27 rfl (lv_at hl 2 rfl) ?_
        refine mv_imul hx hb dX8_keep_28 ?_
        refine lv_iload_n hx hb dX8_keep_29 rfl (lv_at hl 0 rfl) ?_
        refine mv_iadd hx hb dX8_keep_30 ?_
        refine lv_aload_n hx hb dX8_keep_31 rfl (lv_at hl 1 rfl) ?_
        refine va_get (D := D) (ci := 8) (v := .ref (ad 2)) (C := RX8) (T := TX8) (N := 18) hx hb hts (by decide +kernel) hown hK hP 0 rfl rfl 1 (by decide) (hts (.fieldLink RX8 13 "SummitTimeModel" "st" "[I") (by decide +kernel)) (fun _ h9 => h9) rfl dX8_keep_32 ?_
        refine lv_iload_n hx hb dX8_keep_35 rfl (lv_at hl 0 rfl) ?_
        refine mv_iald (f := st) hx hb hK hP 2 0 rfl rfl (by omega) (by decide) dX8_keep_36 ?_
        refine mv_iast (f := wkp1_15) hx hb hK hP hD hS 7 0 rfl rfl (by omega) (by decide) dX8_keep_37 (fun H locs hP hD hS => ?_)
        have hP : va_P D vwCl (mW cI cL cZ ad to st mt rd un (kp.1, (upd wkp1_15 ((73 * kk.toNatClampNeg) + k_15) (st k_15))) rw se) H := hP
        have hD : va_D A (mW cI cL cZ ad to st mt rd un (kp.1, (upd wkp1_15 ((73 * kk.toNatClampNeg) + k_15) (st k_15))) rw se) := hD
        refine mv_iinc (y := k_15 + 1) (lv' := [(2, .int (nI (k_15 + 1))), (0, .ref (ad 0)), (1, .int (nI kk.toNatClampNeg))]) hx hb dX8_keep_38 hl (k := 0) rfl (nI_p1 _) (by decide) rfl (fun ls hl => ?_)
        refine lv_goto (tgt := 15) hx hb dX8_keep_41 (by decide) ?_
        exact ih_15 (k_15 + 1) (upd wkp1_15 ((73 * kk.toNatClampNeg) + k_15) (st k_15)) (by omega) (by have e9 := hL_15; rw [L_X8_keep_15] at e9; exact e9) _ _ ls hP hS (lv_sub hl [0, 1, 2] rfl)
    exact loop_15 73 0 kp.2 (by omega) hT_15_1.symm _ _ ls hP hS (lv_sub hl [0, 1, 2] rfl)
  · refine lv_bipush (v := (-2)) hx hb dX8_keep_10 rfl ?_
    subst hQe
    have hf : (f_X8_keep st kp kk) = ((-2 : Int32), kp) := by rw [f_X8_keep, if_pos c_1]
    exact W.iret (v := (-2 : Int32)) hx hb hr (fun t ht hW => ⟨⟨(-2 : Int32), kp, rfl, ⟨(congrArg Prod.fst hf).symm, (congrArg Prod.snd hf).symm⟩, va_Pt ht hP⟩, hS.F ht⟩) hS.2.2 dX8_keep_12
def L_X8_back_27 (kp : MKp) (kk : Int32) : Nat → Nat → (Nat → Int32) → (Nat → Int32)
  | 0, _, wst0_27 => wst0_27
  | n_27 + 1, k_27, wst0_27 => (L_X8_back_27 kp kk n_27 (k_27 + 1) (upd wst0_27 k_27 (kp.2 ((73 * kk.toNatClampNeg) + k_27))))
def f_X8_back (st : (Nat → Int32)) (un : MUn) (kp : MKp) (kk : Int32) : Int32 × (Nat → Int32) × MUn := (if (f_X8_in kk.toInt64 (0 : Int64) (1 : Int64)) = 0 then ((-2 : Int32), st, un) else (if (kp.1 kk.toNatClampNeg) = 0 then ((-4 : Int32), st, un) else (((L_X8_back_27 kp kk 73 0 st) 72), (L_X8_back_27 kp kk 73 0 st), (un.1, 0))))
abbrev rm_X8_back : Room := { frames := 1, cells := 0, slots := 0, locals := 25 }
set_option maxHeartbeats 4000000 in
set_option maxRecDepth 100000 in
theorem c_X8_back (l : Launch) (D : va_G) (cI cL cZ : ClassId) (ad : Nat → Nat) (A : Nat → Prop) (to : (Nat → Int32)) (st : (Nat → Int32)) (mt : MTx) (rd : (Nat → Int32)) (un : MUn) (kp : MKp) (rw : MKp) (se : MUn) (kk : Int32)  : Met l yX8_back wsX8_back rm_X8_back (va_Pc [.ref (ad 0), .int kk] (sR D cI cL cZ A (mW cI cL cZ ad to st mt rd un kp rw se))) (va_Qi (fun (r : Int32) (u : (Nat → Int32) × MUn) => r = (f_X8_back st un kp kk).1 ∧ u = (f_X8_back st un kp kk).2) (fun (u : (Nat → Int32) × MUn) t => va_P D vwCl (mW cI cL cZ ad to u.1 mt rd u.2 kp rw se) t.heap) A) 0 0 A := by
  refine Met.ofW (cc := cX8_back) (maxL := 3) (ret := (some .int)) (by decide) rfl ?_
  intro p e s m args below meth c s₁ B hml hv
  obtain ⟨rfl, hP, hK, hD, hE⟩ := hv
  have hx := B.exec
  have hb := B.bytes
  have hr := B.returns
  have hts := atoms_spec (ws := wsX8_back) B.pre
  have hown : s.vm.findClass RX8 = some m.cls := findClass_of_methodNamed B.named
  have hlocks := B.notSynchronized
  have hS : va_S A s.heap s.heap [] := va_S.rf
  have hl := lv_entry ([.ref (ad 0), .int kk]) (n := 3) (Nat.le_of_ble_eq_true rfl)
  rw [lg_entry_eq]
  generalize (lg_sl ([.ref (ad 0), .int kk]) ++ List.replicate (3 - (lg_sl ([.ref (ad 0), .int kk])).length) Slot.unset).toArray = ls at hl ⊢
  have hl : lv_has ls 3 [(0, .ref (ad 0)), (1, .int kk)] := hl
  obtain ⟨Q, hQe⟩ : ∃ Q, Q = MQ below (va_Qi (fun (r : Int32) (u : (Nat → Int32) × MUn) => r = (f_X8_back st un kp kk).1 ∧ u = (f_X8_back st un kp kk).2) (fun (u : (Nat → Int32) × MUn) t => va_P D vwCl (mW cI cL cZ ad to u.1 mt rd u.2 kp rw se) t.heap) A) ([.ref (ad 0), .int kk] : List Value).toArray s 0 0 A := ⟨_, rfl⟩
  show W p l e (headSpec wsX8_back rm_X8_back).room s m ([.ref (ad 0), .int kk] : List Value).toArray below meth c s.heap [] 0 0 (MQ below (va_Qi (fun (r : Int32) (u : (Nat → Int32) × MUn) => r = (f_X8_back st un kp kk).1 ∧ u = (f_X8_back st un kp kk).2) (fun (u : (Nat → Int32) × MUn) t => va_P D vwCl (mW cI cL cZ ad to u.1 mt rd u.2 kp rw se) t.heap) A) ([.ref (ad 0), .int kk] : List Value).toArray s 0 0 A) (F0 m 0 ls [])
  rw [← hQe]
  refine lv_iload_n hx hb dX8_back_0 rfl (lv_at hl 1 rfl) ?_
  refine lv_i2l hx hb dX8_back_1 rfl ?_
  refine lv_lconst (v := 0) hx hb dX8_back_2 rfl ?_
  refine lv_lconst (v := 1) hx hb dX8_back_3 rfl ?_
  refine vp_callSi (va_Run.run (va_runS (As := [.long kk.toInt64, .long (0 : Int64), .long (1 : Int64)]) (rest := []) ⟨hx, hb, hml, hown, hts⟩ (c_X8_in l kk.toInt64 (0 : Int64) (1 : Int64) ) (va_cwS 3 hts gX8_back_X8_in rfl rfl rfl (by decide +kernel) ⟨Nat.le_of_ble_eq_true rfl, Nat.le_of_ble_eq_true rfl⟩) ⟨pR_fb, pR_at⟩ rfl rfl hl.1 rfl (lv_room (Nat.le_of_ble_eq_true rfl)) dX8_back_4 ⟨Nat.zero_le _, Nat.zero_le _⟩)) (fun r hr => ?_)
  subst hr
  refine lv_if_ne (tgt := 13) hx hb dX8_back_7 (by decide) (fun c_1 => ?_) (fun c_1 => ?_)
  · have hkl : kk.toNatClampNeg < 2 := in_lt (by decide) c_1
    have hl : lv_has ls 3 [(0, .ref (ad 0)), (1, .int (nI kk.toNatClampNeg))] := by have h9 := hl; rw [in_nat c_1] at h9; exact h9
    refine lv_aload_n hx hb dX8_back_13 rfl (lv_at hl 0 rfl) ?_
    refine va_get (D := D) (ci := 8) (v := .ref (ad 6)) (C := RX8) (T := TX8) (N := 18) hx hb hts (by decide +kernel) hown hK hP 0 rfl rfl 12 (by decide) (hts (.fieldLink RX8 25 "SummitTimeModel" "isKept" "[Z") (by decide +kernel)) (fun _ h9 => h9) rfl dX8_back_14 ?_
    refine lv_iload_n hx hb dX8_back_17 rfl (lv_at hl 1 rfl) ?_
    refine mv_zald (f := kp.1) hx hb hK hP 6 2 rfl rfl (by omega) (by decide) dX8_back_18 ?_
    refine lv_if_ne (tgt := 25) hx hb dX8_back_19 (by decide) (fun c_2 => ?_) (fun c_2 => ?_)
    · refine lv_iconst (v := nI 0) hx hb dX8_back_25 rfl ?_
      refine lv_istore_n (lv' := [(2, .int (nI 0)), (0, .ref (ad 0)), (1, .int (nI kk.toNatClampNeg))]) hx hb dX8_back_26 rfl hl (by decide) rfl (fun ls hl => ?_)
      obtain ⟨T_27_1, hT_27_1⟩ : ∃ z, z = (L_X8_back_27 kp kk 73 0 st) := ⟨_, rfl⟩
      have hexit_27 : ∀ (H : Heap) (locs : List Loc) (ls : Array Slot), va_P D vwCl (mW cI cL cZ ad to T_27_1 mt rd un kp rw se) H → va_S A s.heap H locs → lv_has ls 3 [(0, .ref (ad 0)), (1, .int (nI kk.toNatClampNeg))] → W p l e (headSpec wsX8_back rm_X8_back).room s m ([.ref (ad 0), .int kk] : List Value).toArray below meth c H locs 0 0 Q (F0 m 56 ls []) := by
        intro H locs ls hP hS hl
        have hD : va_D A (mW cI cL cZ ad to T_27_1 mt rd un kp rw se) := mW_D hD
        refine lv_aload_n hx hb dX8_back_56 rfl (lv_at hl 0 rfl) ?_
        refine lv_iconst (v := nI 0) hx hb dX8_back_57 rfl ?_
        refine va_put (D := D) (ci := 8) (v := .int (nI 0)) (ty := .int) (C := RX8) (T := TX8) (N := 18) hx hb hts (by decide +kernel) tyX8 tyX8_ok nmX8 hown hK hP hD hS 0 rfl rfl 11 (by decide) (hts (.fieldLink RX8 124 "SummitTimeModel" "undoMany" "I") (by decide +kernel)) (fun _ h9 => h9) rfl (by decide +kernel) rfl rfl (Nat.le_of_ble_eq_true rfl) dX8_back_58 (fun H locs hP hD hS => ?_)
        have hP : va_P D vwCl (mW cI cL cZ ad to T_27_1 mt rd (un.1, 0) kp rw se) H := hP
        have hD : va_D A (mW cI cL cZ ad to T_27_1 mt rd (un.1, 0) kp rw se) := hD
        refine lv_aload_n hx hb dX8_back_61 rfl (lv_at hl 0 rfl) ?_
        refine va_get (D := D) (ci := 8) (v := .ref (ad 2)) (C := RX8) (T := TX8) (N := 18) hx hb hts (by decide +kernel) hown hK hP 0 rfl rfl 1 (by decide) (hts (.fieldLink RX8 13 "SummitTimeModel" "st" "[I") (by decide +kernel)) (fun _ h9 => h9) rfl dX8_back_62 ?_
        refine lv_bipush (v := nI 72) hx hb dX8_back_65 rfl ?_
        refine mv_iald (f := T_27_1) hx hb hK hP 2 0 rfl rfl (by decide) (by decide) dX8_back_67 ?_
        subst hQe
        have hf : (f_X8_back st un kp kk) = ((T_27_1 72), T_27_1, (un.1, 0)) := by subst hT_27_1; rw [f_X8_back, if_neg c_1, if_neg c_2]
        exact W.iret (v := (T_27_1 72)) hx hb hr (fun t ht hW => ⟨⟨(T_27_1 72), (T_27_1, (un.1, 0)), rfl, ⟨(congrArg Prod.fst hf).symm, (congrArg Prod.snd hf).symm⟩, va_Pt ht hP⟩, hS.F ht⟩) hS.2.2 dX8_back_68
      have loop_27 : ∀ (n_27 : Nat) (k_27 : Nat) (wst0_27 : Nat → Int32), (k_27 + n_27 = 73) → L_X8_back_27 kp kk n_27 k_27 wst0_27 = T_27_1 → ∀ (H : Heap) (locs : List Loc) (ls : Array Slot), va_P D vwCl (mW cI cL cZ ad to wst0_27 mt rd un kp rw se) H → va_S A s.heap H locs → lv_has ls 3 [(2, .int (nI k_27)), (0, .ref (ad 0)), (1, .int (nI kk.toNatClampNeg))] → W p l e (headSpec wsX8_back rm_X8_back).room s m ([.ref (ad 0), .int kk] : List Value).toArray below meth c H locs 0 0 Q (F0 m 27 ls []) := by
        intro n_27
        induction n_27 with
        | zero =>
          intro k_27 wst0_27 hk_27 hL_27 H locs ls hP hS hl
          have hD : va_D A (mW cI cL cZ ad to wst0_27 mt rd un kp rw se) := mW_D hD
          refine lv_iload_n hx hb dX8_back_27 rfl (lv_at hl 0 rfl) ?_
          refine lv_bipush (v := nI 73) hx hb dX8_back_28 rfl ?_
          refine mv_icmp_ge (tgt := 56) hx hb dX8_back_30 (by decide) (by omega) (by decide) (fun c_4 => ?_) (fun c_4 => (by omega : False).elim)
          have e9 : T_27_1 = wst0_27 := by rw [← hL_27, L_X8_back_27]
          have hq := hexit_27
          rw [e9] at hq
          exact hq _ _ ls  hP hS (lv_sub hl [1, 2] rfl)
        | succ n_27 ih_27 =>
          intro k_27 wst0_27 hk_27 hL_27 H locs ls hP hS hl
          have hD : va_D A (mW cI cL cZ ad to wst0_27 mt rd un kp rw se) := mW_D hD
          refine lv_iload_n hx hb dX8_back_27 rfl (lv_at hl 0 rfl) ?_
          refine lv_bipush (v := nI 73) hx hb dX8_back_28 rfl ?_
          refine mv_icmp_ge (tgt := 56) hx hb dX8_back_30 (by decide) (by omega) (by decide) (fun c_3 => (by omega : False).elim) (fun c_3 => ?_)
          refine lv_aload_n hx hb dX8_back_33 rfl (lv_at hl 1 rfl) ?_
          refine va_get (D := D) (ci := 8) (v := .ref (ad 2)) (C := RX8) (T := TX8) (N := 18) hx hb hts (by decide +kernel) hown hK hP 0 rfl rfl 1 (by decide) (hts (.fieldLink RX8 13 "SummitTimeModel" "st" "[I") (by decide +kernel)) (fun _ h9 => h9) rfl dX8_back_34 ?_
          refine lv_iload_n hx hb dX8_back_37 rfl (lv_at hl 0 rfl) ?_
          refine lv_aload_n hx hb dX8_back_38 rfl (lv_at hl 1 rfl) ?_
          refine va_get (D := D) (ci := 8) (v := .ref (ad 7)) (C := RX8) (T := TX8) (N := 18) hx hb hts (by decide +kernel) hown hK hP 0 rfl rfl 13 (by decide) (hts (.fieldLink RX8 29 "SummitTimeModel" "kept" "[I") (by decide +kernel)) (fun _ h9 => h9) rfl dX8_back_39 ?_
          refine lv_bipush (v := nI 73) hx hb dX8_back_42 rfl ?_
          refine lv_iload_n hx hb dX8_back_44 rfl (lv_at hl 2 rfl) ?_
          refine mv_imul hx hb dX8_back_45 ?_
          refine lv_iload_n hx hb dX8_back_46 rfl (lv_at hl 0 rfl) ?_
          refine mv_iadd hx hb dX8_back_47 ?_
          refine mv_iald (f := kp.2) hx hb hK hP 7 0 rfl rfl (by omega) (by decide) dX8_back_48 ?_
          refine mv_iast (f := wst0_27) hx hb hK hP hD hS 2 0 rfl rfl (by omega) (by decide) dX8_back_49 (fun H locs hP hD hS => ?_)
          have hP : va_P D vwCl (mW cI cL cZ ad to (upd wst0_27 k_27 (kp.2 ((73 * kk.toNatClampNeg) + k_27))) mt rd un kp rw se) H := hP
          have hD : va_D A (mW cI cL cZ ad to (upd wst0_27 k_27 (kp.2 ((73 * kk.toNatClampNeg) + k_27))) mt rd un kp rw se) := hD
          refine mv_iinc (y := k_27 + 1) (lv' := [(2, .int (nI (k_27 + 1))), (0, .ref (ad 0)), (1, .int (nI kk.toNatClampNeg))]) hx hb dX8_back_50 hl (k := 0) rfl (nI_p1 _) (by decide) rfl (fun ls hl => ?_)
          refine lv_goto (tgt := 27) hx hb dX8_back_53 (by decide) ?_
          exact ih_27 (k_27 + 1) (upd wst0_27 k_27 (kp.2 ((73 * kk.toNatClampNeg) + k_27))) (by omega) (by have e9 := hL_27; rw [L_X8_back_27] at e9; exact e9) _ _ ls hP hS (lv_sub hl [0, 1, 2] rfl)
      exact loop_27 73 0 st (by omega) hT_27_1.symm _ _ ls hP hS (lv_sub hl [0, 1, 2] rfl)
    · refine lv_bipush (v := (-4)) hx hb dX8_back_22 rfl ?_
      subst hQe
      have hf : (f_X8_back st un kp kk) = ((-4 : Int32), st, un) := by rw [f_X8_back, if_neg c_1, if_pos c_2]
      exact W.iret (v := (-4 : Int32)) hx hb hr (fun t ht hW => ⟨⟨(-4 : Int32), (st, un), rfl, ⟨(congrArg Prod.fst hf).symm, (congrArg Prod.snd hf).symm⟩, va_Pt ht hP⟩, hS.F ht⟩) hS.2.2 dX8_back_24
  · refine lv_bipush (v := (-2)) hx hb dX8_back_10 rfl ?_
    subst hQe
    have hf : (f_X8_back st un kp kk) = ((-2 : Int32), st, un) := by rw [f_X8_back, if_pos c_1]
    exact W.iret (v := (-2 : Int32)) hx hb hr (fun t ht hW => ⟨⟨(-2 : Int32), (st, un), rfl, ⟨(congrArg Prod.fst hf).symm, (congrArg Prod.snd hf).symm⟩, va_Pt ht hP⟩, hS.F ht⟩) hS.2.2 dX8_back_12
def L_X8_best_43 (to : (Nat → Int32)) (pe : Int32) : Nat → Nat → Int32 → Int32 → (Nat → Int32) → Int32 × Int32 × (Nat → Int32)
  | 0, _, x5_43, x4_43, wst0_43 => (x5_43, x4_43, wst0_43)
  | n_43 + 1, k_43, x5_43, x4_43, wst0_43 => (if (if nI 60 < ((f_X8_thereBy to (upd wst0_43 (60 + pe.toNatClampNeg) (nI k_43)) pe.toNatClampNeg (nI k_43)) + (to (13 + pe.toNatClampNeg))) then nI 0 else nI 1) = 0 then (L_X8_best_43 to pe n_43 (k_43 + 1) x5_43 x4_43 (upd wst0_43 (60 + pe.toNatClampNeg) (nI k_43))) else (if x4_43 < 0 then (L_X8_best_43 to pe n_43 (k_43 + 1) (if (if nI 60 < ((f_X8_thereBy to (upd wst0_43 (60 + pe.toNatClampNeg) (nI k_43)) pe.toNatClampNeg (nI k_43)) + (to (13 + pe.toNatClampNeg))) then nI 0 else nI 1) = 0 then nI 0 else (f_X8_fineOf to (upd wst0_43 (60 + pe.toNatClampNeg) (nI k_43)) pe.toNatClampNeg)) (nI k_43) (upd wst0_43 (60 + pe.toNatClampNeg) (nI k_43))) else (if x5_43 ≤ (if (if nI 60 < ((f_X8_thereBy to (upd wst0_43 (60 + pe.toNatClampNeg) (nI k_43)) pe.toNatClampNeg (nI k_43)) + (to (13 + pe.toNatClampNeg))) then nI 0 else nI 1) = 0 then nI 0 else (f_X8_fineOf to (upd wst0_43 (60 + pe.toNatClampNeg) (nI k_43)) pe.toNatClampNeg)) then (L_X8_best_43 to pe n_43 (k_43 + 1) x5_43 x4_43 (upd wst0_43 (60 + pe.toNatClampNeg) (nI k_43))) else (L_X8_best_43 to pe n_43 (k_43 + 1) (if (if nI 60 < ((f_X8_thereBy to (upd wst0_43 (60 + pe.toNatClampNeg) (nI k_43)) pe.toNatClampNeg (nI k_43)) + (to (13 + pe.toNatClampNeg))) then nI 0 else nI 1) = 0 then nI 0 else (f_X8_fineOf to (upd wst0_43 (60 + pe.toNatClampNeg) (nI k_43)) pe.toNatClampNeg)) (nI k_43) (upd wst0_43 (60 + pe.toNatClampNeg) (nI k_43))))))
def f_X8_best (to : (Nat → Int32)) (st : (Nat → Int32)) (pe : Int32) (wh : Int32) : Int32 × (Nat → Int32) := (if (f_X8_isPerson to pe) = 0 then ((-2 : Int32), st) else (if (f_X8_in wh.toInt64 (0 : Int64) (1 : Int64)) = 0 then ((-3 : Int32), st) else ((if 0 ≤ (L_X8_best_43 to pe 60 0 (nI 0) (-1 : Int32) st).2.1 then (if wh = 0 then (L_X8_best_43 to pe 60 0 (nI 0) (-1 : Int32) st).2.1 else (L_X8_best_43 to pe 60 0 (nI 0) (-1 : Int32) st).1) else (-1 : Int32)), (upd (L_X8_best_43 to pe 60 0 (nI 0) (-1 : Int32) st).2.2 (60 + pe.toNatClampNeg) (st (60 + pe.toNatClampNeg))))))
abbrev rm_X8_best : Room := { frames := 5, cells := 0, slots := 0, locals := 113 }
set_option maxHeartbeats 4000000 in
set_option maxRecDepth 100000 in
theorem c_X8_best (l : Launch) (D : va_G) (cI cL cZ : ClassId) (ad : Nat → Nat) (A : Nat → Prop) (to : (Nat → Int32)) (st : (Nat → Int32)) (mt : MTx) (rd : (Nat → Int32)) (un : MUn) (kp : MKp) (rw : MKp) (se : MUn) (pe : Int32) (wh : Int32) (hm : to 0 = nI (mN to)) (hm6 : mN to ≤ 6) (hso : ∀ j, j < 60 → (st j).toNatClampNeg < 6) : Met l yX8_best wsX8_best rm_X8_best (va_Pc [.ref (ad 0), .int pe, .int wh] (sR D cI cL cZ A (mW cI cL cZ ad to st mt rd un kp rw se))) (va_Qi (fun (r : Int32) (u : (Nat → Int32)) => r = (f_X8_best to st pe wh).1 ∧ u = (f_X8_best to st pe wh).2) (fun (u : (Nat → Int32)) t => va_P D vwCl (mW cI cL cZ ad to u mt rd un kp rw se) t.heap) A) 0 0 A := by
  refine Met.ofW (cc := cX8_best) (maxL := 9) (ret := (some .int)) (by decide) rfl ?_
  intro p e s m args below meth c s₁ B hml hv
  obtain ⟨rfl, hP, hK, hD, hE⟩ := hv
  have hx := B.exec
  have hb := B.bytes
  have hr := B.returns
  have hts := atoms_spec (ws := wsX8_best) B.pre
  have hown : s.vm.findClass RX8 = some m.cls := findClass_of_methodNamed B.named
  have hlocks := B.notSynchronized
  have hS : va_S A s.heap s.heap [] := va_S.rf
  have hl := lv_entry ([.ref (ad 0), .int pe, .int wh]) (n := 9) (Nat.le_of_ble_eq_true rfl)
  rw [lg_entry_eq]
  generalize (lg_sl ([.ref (ad 0), .int pe, .int wh]) ++ List.replicate (9 - (lg_sl ([.ref (ad 0), .int pe, .int wh])).length) Slot.unset).toArray = ls at hl ⊢
  have hl : lv_has ls 9 [(0, .ref (ad 0)), (1, .int pe), (2, .int wh)] := hl
  obtain ⟨Q, hQe⟩ : ∃ Q, Q = MQ below (va_Qi (fun (r : Int32) (u : (Nat → Int32)) => r = (f_X8_best to st pe wh).1 ∧ u = (f_X8_best to st pe wh).2) (fun (u : (Nat → Int32)) t => va_P D vwCl (mW cI cL cZ ad to u mt rd un kp rw se) t.heap) A) ([.ref (ad 0), .int pe, .int wh] : List Value).toArray s 0 0 A := ⟨_, rfl⟩
  show W p l e (headSpec wsX8_best rm_X8_best).room s m ([.ref (ad 0), .int pe, .int wh] : List Value).toArray below meth c s.heap [] 0 0 (MQ below (va_Qi (fun (r : Int32) (u : (Nat → Int32)) => r = (f_X8_best to st pe wh).1 ∧ u = (f_X8_best to st pe wh).2) (fun (u : (Nat → Int32)) t => va_P D vwCl (mW cI cL cZ ad to u mt rd un kp rw se) t.heap) A) ([.ref (ad 0), .int pe, .int wh] : List Value).toArray s 0 0 A) (F0 m 0 ls [])
  rw [← hQe]
  refine lv_aload_n hx hb dX8_best_0 rfl (lv_at hl 0 rfl) ?_
  refine lv_iload_n hx hb dX8_best_1 rfl (lv_at hl 1 rfl) ?_
  refine vp_callSi (va_Run.run (va_runV (As := [.int pe]) (rest := []) ⟨hx, hb, hml, hown, hts⟩ (c_X8_isPerson l D cI cL cZ ad A to st mt rd un kp rw se pe (by first | assumption | omega) (by first | assumption | omega)) (cwV 1 hts gX8_best_X8_isPerson rfl rfl rfl (by decide +kernel) ⟨Nat.le_of_ble_eq_true rfl, Nat.le_of_ble_eq_true rfl⟩) ⟨sR_fb, va_recv hK hP (ci := 8) (q0 := 0) rfl rfl, sR_at hP hK hD hE⟩ rfl rfl hl.1 rfl (lv_room (Nat.le_of_ble_eq_true rfl)) dX8_best_2 ⟨Nat.zero_le _, Nat.zero_le _⟩)) (fun r hr => ?_)
  subst hr
  refine lv_if_ne (tgt := 11) hx hb dX8_best_5 (by decide) (fun c_1 => ?_) (fun c_1 => ?_)
  · refine lv_iload_n hx hb dX8_best_11 rfl (lv_at hl 2 rfl) ?_
    refine lv_i2l hx hb dX8_best_12 rfl ?_
    refine lv_lconst (v := 0) hx hb dX8_best_13 rfl ?_
    refine lv_lconst (v := 1) hx hb dX8_best_14 rfl ?_
    refine vp_callSi (va_Run.run (va_runS (As := [.long wh.toInt64, .long (0 : Int64), .long (1 : Int64)]) (rest := []) ⟨hx, hb, hml, hown, hts⟩ (c_X8_in l wh.toInt64 (0 : Int64) (1 : Int64) ) (va_cwS 3 hts gX8_best_X8_in rfl rfl rfl (by decide +kernel) ⟨Nat.le_of_ble_eq_true rfl, Nat.le_of_ble_eq_true rfl⟩) ⟨pR_fb, pR_at⟩ rfl rfl hl.1 rfl (lv_room (Nat.le_of_ble_eq_true rfl)) dX8_best_15 ⟨Nat.zero_le _, Nat.zero_le _⟩)) (fun r hr => ?_)
    subst hr
    refine lv_if_ne (tgt := 24) hx hb dX8_best_18 (by decide) (fun c_2 => ?_) (fun c_2 => ?_)
    · have hpl : pe.toNatClampNeg < mN to := isP_lt hm6 c_1
      have hl : lv_has ls 9 [(0, .ref (ad 0)), (1, .int (nI pe.toNatClampNeg)), (2, .int wh)] := by have h9 := hl; rw [isP_nat c_1] at h9; exact h9
      refine lv_aload_n hx hb dX8_best_24 rfl (lv_at hl 0 rfl) ?_
      refine va_get (D := D) (ci := 8) (v := .ref (ad 2)) (C := RX8) (T := TX8) (N := 18) hx hb hts (by decide +kernel) hown hK hP 0 rfl rfl 1 (by decide) (hts (.fieldLink RX8 13 "SummitTimeModel" "st" "[I") (by decide +kernel)) (fun _ h9 => h9) rfl dX8_best_25 ?_
      refine lv_bipush (v := nI 60) hx hb dX8_best_28 rfl ?_
      refine lv_iload_n hx hb dX8_best_30 rfl (lv_at hl 1 rfl) ?_
      refine mv_iadd hx hb dX8_best_31 ?_
      refine mv_iald (f := st) hx hb hK hP 2 0 rfl rfl (by omega) (by decide) dX8_best_32 ?_
      refine lv_istore_n (lv' := [(3, .int (st (60 + pe.toNatClampNeg))), (0, .ref (ad 0)), (1, .int (nI pe.toNatClampNeg)), (2, .int wh)]) hx hb dX8_best_33 rfl hl (by decide) rfl (fun ls hl => ?_)
      refine lv_iconst (v := (-1)) hx hb dX8_best_34 rfl ?_
      refine lv_istore (lv' := [(4, .int (-1 : Int32)), (3, .int (st (60 + pe.toNatClampNeg))), (0, .ref (ad 0)), (1, .int (nI pe.toNatClampNeg)), (2, .int wh)]) hx hb dX8_best_35 hl (by decide) rfl (fun ls hl => ?_)
      refine lv_iconst (v := nI 0) hx hb dX8_best_37 rfl ?_
      refine lv_istore (lv' := [(5, .int (nI 0)), (4, .int (-1 : Int32)), (3, .int (st (60 + pe.toNatClampNeg))), (0, .ref (ad 0)), (1, .int (nI pe.toNatClampNeg)), (2, .int wh)]) hx hb dX8_best_38 hl (by decide) rfl (fun ls hl => ?_)
      refine lv_iconst (v := nI 0) hx hb dX8_best_40 rfl ?_
      refine lv_istore (lv' := [(6, .int (nI 0)), (5, .int (nI 0)), (4, .int (-1 : Int32)), (3, .int (st (60 + pe.toNatClampNeg))), (0, .ref (ad 0)), (1, .int (nI pe.toNatClampNeg)), (2, .int wh)]) hx hb dX8_best_41 hl (by decide) rfl (fun ls hl => ?_)
      obtain ⟨T_43_1, hT_43_1⟩ : ∃ z, z = (L_X8_best_43 to pe 60 0 (nI 0) (-1 : Int32) st) := ⟨_, rfl⟩
      have hexit_43 : ∀ (H : Heap) (locs : List Loc) (ls : Array Slot), va_P D vwCl (mW cI cL cZ ad to T_43_1.2.2 mt rd un kp rw se) H → va_S A s.heap H locs → lv_has ls 9 [(5, .int T_43_1.1), (4, .int T_43_1.2.1), (3, .int (st (60 + pe.toNatClampNeg))), (0, .ref (ad 0)), (1, .int (nI pe.toNatClampNeg)), (2, .int wh)] → W p l e (headSpec wsX8_best rm_X8_best).room s m ([.ref (ad 0), .int pe, .int wh] : List Value).toArray below meth c H locs 0 0 Q (F0 m 137 ls []) := by
        intro H locs ls hP hS hl
        have hD : va_D A (mW cI cL cZ ad to T_43_1.2.2 mt rd un kp rw se) := mW_D hD
        refine lv_aload_n hx hb dX8_best_137 rfl (lv_at hl 3 rfl) ?_
        refine va_get (D := D) (ci := 8) (v := .ref (ad 2)) (C := RX8) (T := TX8) (N := 18) hx hb hts (by decide +kernel) hown hK hP 0 rfl rfl 1 (by decide) (hts (.fieldLink RX8 13 "SummitTimeModel" "st" "[I") (by decide +kernel)) (fun _ h9 => h9) rfl dX8_best_138 ?_
        refine lv_bipush (v := nI 60) hx hb dX8_best_141 rfl ?_
        refine lv_iload_n hx hb dX8_best_143 rfl (lv_at hl 4 rfl) ?_
        refine mv_iadd hx hb dX8_best_144 ?_
        refine lv_iload_n hx hb dX8_best_145 rfl (lv_at hl 2 rfl) ?_
        refine mv_iast (f := T_43_1.2.2) hx hb hK hP hD hS 2 0 rfl rfl (by omega) (by decide) dX8_best_146 (fun H locs hP hD hS => ?_)
        have hP : va_P D vwCl (mW cI cL cZ ad to (upd T_43_1.2.2 (60 + pe.toNatClampNeg) (st (60 + pe.toNatClampNeg))) mt rd un kp rw se) H := hP
        have hD : va_D A (mW cI cL cZ ad to (upd T_43_1.2.2 (60 + pe.toNatClampNeg) (st (60 + pe.toNatClampNeg))) mt rd un kp rw se) := hD
        refine lv_iload hx hb dX8_best_147 (lv_at hl 1 rfl) ?_
        refine mv_phi (v := (if 0 ≤ T_43_1.2.1 then (if wh = 0 then T_43_1.2.1 else T_43_1.1) else (-1 : Int32))) (pcj := 167) (ls := ls) (rest' := []) ?_ (fun J_12 => ?_)
        · subst hQe
          have hf : (f_X8_best to st pe wh) = ((if 0 ≤ T_43_1.2.1 then (if wh = 0 then T_43_1.2.1 else T_43_1.1) else (-1 : Int32)), (upd T_43_1.2.2 (60 + pe.toNatClampNeg) (st (60 + pe.toNatClampNeg)))) := by subst hT_43_1; rw [f_X8_best, if_neg c_1, if_neg c_2]
          exact W.iret (v := (if 0 ≤ T_43_1.2.1 then (if wh = 0 then T_43_1.2.1 else T_43_1.1) else (-1 : Int32))) hx hb hr (fun t ht hW => ⟨⟨(if 0 ≤ T_43_1.2.1 then (if wh = 0 then T_43_1.2.1 else T_43_1.1) else (-1 : Int32)), (upd T_43_1.2.2 (60 + pe.toNatClampNeg) (st (60 + pe.toNatClampNeg))), rfl, ⟨(congrArg Prod.fst hf).symm, (congrArg Prod.snd hf).symm⟩, va_Pt ht hP⟩, hS.F ht⟩) hS.2.2 dX8_best_167
        · refine lv_if_ge (tgt := 156) hx hb dX8_best_149 (by decide) (fun c_13 => ?_) (fun c_13 => ?_)
          · refine lv_iload_n hx hb dX8_best_156 rfl (lv_at hl 5 rfl) ?_
            refine lv_if_ne (tgt := 165) hx hb dX8_best_157 (by decide) (fun c_14 => ?_) (fun c_14 => ?_)
            · refine lv_iload hx hb dX8_best_165 (lv_at hl 0 rfl) ?_
              exact J_12 _ (by rw [if_pos c_13, if_neg c_14])
            · refine lv_iload hx hb dX8_best_160 (lv_at hl 1 rfl) ?_
              refine lv_goto (tgt := 167) hx hb dX8_best_162 (by decide) ?_
              exact J_12 _ (by rw [if_pos c_13, if_pos c_14])
          · refine lv_iconst (v := (-1)) hx hb dX8_best_152 rfl ?_
            refine lv_goto (tgt := 167) hx hb dX8_best_153 (by decide) ?_
            exact J_12 _ (by rw [if_neg c_13])
      have loop_43 : ∀ (n_43 : Nat) (k_43 : Nat) (x5_43 : Int32) (x4_43 : Int32) (wst0_43 : Nat → Int32), (k_43 + n_43 = 60) → (∀ j, j < 60 → (wst0_43 j).toNatClampNeg < 6) → L_X8_best_43 to pe n_43 k_43 x5_43 x4_43 wst0_43 = T_43_1 → ∀ (H : Heap) (locs : List Loc) (ls : Array Slot), va_P D vwCl (mW cI cL cZ ad to wst0_43 mt rd un kp rw se) H → va_S A s.heap H locs → lv_has ls 9 [(6, .int (nI k_43)), (5, .int x5_43), (4, .int x4_43), (3, .int (st (60 + pe.toNatClampNeg))), (0, .ref (ad 0)), (1, .int (nI pe.toNatClampNeg)), (2, .int wh)] → W p l e (headSpec wsX8_best rm_X8_best).room s m ([.ref (ad 0), .int pe, .int wh] : List Value).toArray below meth c H locs 0 0 Q (F0 m 43 ls []) := by
        intro n_43
        induction n_43 with
        | zero =>
          intro k_43 x5_43 x4_43 wst0_43 hk_43 hsw hL_43 H locs ls hP hS hl
          have hD : va_D A (mW cI cL cZ ad to wst0_43 mt rd un kp rw se) := mW_D hD
          refine lv_iload hx hb dX8_best_43 (lv_at hl 0 rfl) ?_
          refine lv_bipush (v := nI 60) hx hb dX8_best_45 rfl ?_
          refine mv_icmp_ge (tgt := 137) hx hb dX8_best_47 (by decide) (by omega) (by decide) (fun c_11 => ?_) (fun c_11 => (by omega : False).elim)
          have e9 : T_43_1 = (x5_43, x4_43, wst0_43) := by rw [← hL_43, L_X8_best_43]
          have hq := hexit_43
          rw [e9] at hq
          exact hq _ _ ls  hP hS (lv_sub hl [1, 2, 3, 4, 5, 6] rfl)
        | succ n_43 ih_43 =>
          intro k_43 x5_43 x4_43 wst0_43 hk_43 hsw hL_43 H locs ls hP hS hl
          have hD : va_D A (mW cI cL cZ ad to wst0_43 mt rd un kp rw se) := mW_D hD
          refine lv_iload hx hb dX8_best_43 (lv_at hl 0 rfl) ?_
          refine lv_bipush (v := nI 60) hx hb dX8_best_45 rfl ?_
          refine mv_icmp_ge (tgt := 137) hx hb dX8_best_47 (by decide) (by omega) (by decide) (fun c_3 => (by omega : False).elim) (fun c_3 => ?_)
          refine lv_aload_n hx hb dX8_best_50 rfl (lv_at hl 4 rfl) ?_
          refine va_get (D := D) (ci := 8) (v := .ref (ad 2)) (C := RX8) (T := TX8) (N := 18) hx hb hts (by decide +kernel) hown hK hP 0 rfl rfl 1 (by decide) (hts (.fieldLink RX8 13 "SummitTimeModel" "st" "[I") (by decide +kernel)) (fun _ h9 => h9) rfl dX8_best_51 ?_
          refine lv_bipush (v := nI 60) hx hb dX8_best_54 rfl ?_
          refine lv_iload_n hx hb dX8_best_56 rfl (lv_at hl 5 rfl) ?_
          refine mv_iadd hx hb dX8_best_57 ?_
          refine lv_iload hx hb dX8_best_58 (lv_at hl 0 rfl) ?_
          refine mv_iast (f := wst0_43) hx hb hK hP hD hS 2 0 rfl rfl (by omega) (by decide) dX8_best_60 (fun H locs hP hD hS => ?_)
          have hP : va_P D vwCl (mW cI cL cZ ad to (upd wst0_43 (60 + pe.toNatClampNeg) (nI k_43)) mt rd un kp rw se) H := hP
          have hD : va_D A (mW cI cL cZ ad to (upd wst0_43 (60 + pe.toNatClampNeg) (nI k_43)) mt rd un kp rw se) := hD
          refine lv_aload_n hx hb dX8_best_61 rfl (lv_at hl 4 rfl) ?_
          refine lv_iload_n hx hb dX8_best_62 rfl (lv_at hl 5 rfl) ?_
          refine lv_iload hx hb dX8_best_63 (lv_at hl 0 rfl) ?_
          refine vp_callSi (va_Run.run (va_runV (As := [.int (nI pe.toNatClampNeg), .int (nI k_43)]) (rest := []) ⟨hx, hb, hml, hown, hts⟩ (c_X8_thereBy l D cI cL cZ ad A to (upd wst0_43 (60 + pe.toNatClampNeg) (nI k_43)) mt rd un kp rw se pe.toNatClampNeg (nI k_43) (by first | assumption | omega)) (cwV 2 hts gX8_best_X8_thereBy rfl rfl rfl (by decide +kernel) ⟨Nat.le_of_ble_eq_true rfl, Nat.le_of_ble_eq_true rfl⟩) ⟨sR_fb, va_recv hK hP (ci := 8) (q0 := 0) rfl rfl, sR_at hP hK hD hE⟩ rfl rfl hl.1 rfl (lv_room (Nat.le_of_ble_eq_true rfl)) dX8_best_65 ⟨Nat.zero_le _, Nat.zero_le _⟩)) (fun r hr => ?_)
          subst hr
          refine lv_aload_n hx hb dX8_best_68 rfl (lv_at hl 4 rfl) ?_
          refine va_get (D := D) (ci := 8) (v := .ref (ad 1)) (C := RX8) (T := TX8) (N := 18) hx hb hts (by decide +kernel) hown hK hP 0 rfl rfl 0 (by decide) (hts (.fieldLink RX8 7 "SummitTimeModel" "told" "[I") (by decide +kernel)) (fun _ h9 => h9) rfl dX8_best_69 ?_
          refine lv_bipush (v := nI 13) hx hb dX8_best_72 rfl ?_
          refine lv_iload_n hx hb dX8_best_74 rfl (lv_at hl 5 rfl) ?_
          refine mv_iadd hx hb dX8_best_75 ?_
          refine mv_iald (f := to) hx hb hK hP 1 0 rfl rfl (by omega) (by decide) dX8_best_76 ?_
          refine lv_iadd hx hb dX8_best_77 ?_
          refine lv_bipush (v := nI 60) hx hb dX8_best_78 rfl ?_
          refine mv_phi (v := (if nI 60 < ((f_X8_thereBy to (upd wst0_43 (60 + pe.toNatClampNeg) (nI k_43)) pe.toNatClampNeg (nI k_43)) + (to (13 + pe.toNatClampNeg))) then nI 0 else nI 1)) (pcj := 88) (ls := ls) (rest' := []) ?_ (fun J_9 => ?_)
          · refine lv_istore (lv' := [(7, .int (if nI 60 < ((f_X8_thereBy to (upd wst0_43 (60 + pe.toNatClampNeg) (nI k_43)) pe.toNatClampNeg (nI k_43)) + (to (13 + pe.toNatClampNeg))) then nI 0 else nI 1)), (6, .int (nI k_43)), (5, .int x5_43), (4, .int x4_43), (3, .int (st (60 + pe.toNatClampNeg))), (0, .ref (ad 0)), (1, .int (nI pe.toNatClampNeg)), (2, .int wh)]) hx hb dX8_best_88 hl (by decide) rfl (fun ls hl => ?_)
            refine lv_iload hx hb dX8_best_90 (lv_at hl 0 rfl) ?_
            refine mv_phi (v := (if (if nI 60 < ((f_X8_thereBy to (upd wst0_43 (60 + pe.toNatClampNeg) (nI k_43)) pe.toNatClampNeg (nI k_43)) + (to (13 + pe.toNatClampNeg))) then nI 0 else nI 1) = 0 then nI 0 else (f_X8_fineOf to (upd wst0_43 (60 + pe.toNatClampNeg) (nI k_43)) pe.toNatClampNeg))) (pcj := 104) (ls := ls) (rest' := []) ?_ (fun J_7 => ?_)
            · refine lv_istore (lv' := [(8, .int (if (if nI 60 < ((f_X8_thereBy to (upd wst0_43 (60 + pe.toNatClampNeg) (nI k_43)) pe.toNatClampNeg (nI k_43)) + (to (13 + pe.toNatClampNeg))) then nI 0 else nI 1) = 0 then nI 0 else (f_X8_fineOf to (upd wst0_43 (60 + pe.toNatClampNeg) (nI k_43)) pe.toNatClampNeg))), (7, .int (if nI 60 < ((f_X8_thereBy to (upd wst0_43 (60 + pe.toNatClampNeg) (nI k_43)) pe.toNatClampNeg (nI k_43)) + (to (13 + pe.toNatClampNeg))) then nI 0 else nI 1)), (6, .int (nI k_43)), (5, .int x5_43), (4, .int x4_43), (3, .int (st (60 + pe.toNatClampNeg))), (0, .ref (ad 0)), (1, .int (nI pe.toNatClampNeg)), (2, .int wh)]) hx hb dX8_best_104 hl (by decide) rfl (fun ls hl => ?_)
              refine lv_iload hx hb dX8_best_106 (lv_at hl 1 rfl) ?_
              refine lv_if_eq (tgt := 131) hx hb dX8_best_108 (by decide) (fun c_4 => ?_) (fun c_4 => ?_)
              · refine mv_iinc (y := k_43 + 1) (lv' := [(6, .int (nI (k_43 + 1))), (8, .int (if (if nI 60 < ((f_X8_thereBy to (upd wst0_43 (60 + pe.toNatClampNeg) (nI k_43)) pe.toNatClampNeg (nI k_43)) + (to (13 + pe.toNatClampNeg))) then nI 0 else nI 1) = 0 then nI 0 else (f_X8_fineOf to (upd wst0_43 (60 + pe.toNatClampNeg) (nI k_43)) pe.toNatClampNeg))), (7, .int (if nI 60 < ((f_X8_thereBy to (upd wst0_43 (60 + pe.toNatClampNeg) (nI k_43)) pe.toNatClampNeg (nI k_43)) + (to (13 + pe.toNatClampNeg))) then nI 0 else nI 1)), (5, .int x5_43), (4, .int x4_43), (3, .int (st (60 + pe.toNatClampNeg))), (0, .ref (ad 0)), (1, .int (nI pe.toNatClampNeg)), (2, .int wh)]) hx hb dX8_best_131 hl (k := 2) rfl (nI_p1 _) (by decide) rfl (fun ls hl => ?_)
                refine lv_goto (tgt := 43) hx hb dX8_best_134 (by decide) ?_
                exact ih_43 (k_43 + 1) x5_43 x4_43 (upd wst0_43 (60 + pe.toNatClampNeg) (nI k_43)) (by omega) (so_upd hsw (by omega)) (by have e9 := hL_43; rw [L_X8_best_43, if_pos c_4] at e9; exact e9) _ _ ls hP hS (lv_sub hl [0, 3, 4, 5, 6, 7, 8] rfl)
              · refine lv_iload hx hb dX8_best_111 (lv_at hl 4 rfl) ?_
                refine lv_if_lt (tgt := 123) hx hb dX8_best_113 (by decide) (fun c_5 => ?_) (fun c_5 => ?_)
                · refine lv_iload hx hb dX8_best_123 (lv_at hl 2 rfl) ?_
                  refine lv_istore (lv' := [(4, .int (nI k_43)), (8, .int (if (if nI 60 < ((f_X8_thereBy to (upd wst0_43 (60 + pe.toNatClampNeg) (nI k_43)) pe.toNatClampNeg (nI k_43)) + (to (13 + pe.toNatClampNeg))) then nI 0 else nI 1) = 0 then nI 0 else (f_X8_fineOf to (upd wst0_43 (60 + pe.toNatClampNeg) (nI k_43)) pe.toNatClampNeg))), (7, .int (if nI 60 < ((f_X8_thereBy to (upd wst0_43 (60 + pe.toNatClampNeg) (nI k_43)) pe.toNatClampNeg (nI k_43)) + (to (13 + pe.toNatClampNeg))) then nI 0 else nI 1)), (6, .int (nI k_43)), (5, .int x5_43), (3, .int (st (60 + pe.toNatClampNeg))), (0, .ref (ad 0)), (1, .int (nI pe.toNatClampNeg)), (2, .int wh)]) hx hb dX8_best_125 hl (by decide) rfl (fun ls hl => ?_)
                  refine lv_iload hx hb dX8_best_127 (lv_at hl 1 rfl) ?_
                  refine lv_istore (lv' := [(5, .int (if (if nI 60 < ((f_X8_thereBy to (upd wst0_43 (60 + pe.toNatClampNeg) (nI k_43)) pe.toNatClampNeg (nI k_43)) + (to (13 + pe.toNatClampNeg))) then nI 0 else nI 1) = 0 then nI 0 else (f_X8_fineOf to (upd wst0_43 (60 + pe.toNatClampNeg) (nI k_43)) pe.toNatClampNeg))), (4, .int (nI k_43)), (8, .int (if (if nI 60 < ((f_X8_thereBy to (upd wst0_43 (60 + pe.toNatClampNeg) (nI k_43)) pe.toNatClampNeg (nI k_43)) + (to (13 + pe.toNatClampNeg))) then nI 0 else nI 1) = 0 then nI 0 else (f_X8_fineOf to (upd wst0_43 (60 + pe.toNatClampNeg) (nI k_43)) pe.toNatClampNeg))), (7, .int (if nI 60 < ((f_X8_thereBy to (upd wst0_43 (60 + pe.toNatClampNeg) (nI k_43)) pe.toNatClampNeg (nI k_43)) + (to (13 + pe.toNatClampNeg))) then nI 0 else nI 1)), (6, .int (nI k_43)), (3, .int (st (60 + pe.toNatClampNeg))), (0, .ref (ad 0)), (1, .int (nI pe.toNatClampNeg)), (2, .int wh)]) hx hb dX8_best_129 hl (by decide) rfl (fun ls hl => ?_)
                  refine mv_iinc (y := k_43 + 1) (lv' := [(6, .int (nI (k_43 + 1))), (5, .int (if (if nI 60 < ((f_X8_thereBy to (upd wst0_43 (60 + pe.toNatClampNeg) (nI k_43)) pe.toNatClampNeg (nI k_43)) + (to (13 + pe.toNatClampNeg))) then nI 0 else nI 1) = 0 then nI 0 else (f_X8_fineOf to (upd wst0_43 (60 + pe.toNatClampNeg) (nI k_43)) pe.toNatClampNeg))), (4, .int (nI k_43)), (8, .int (if (if nI 60 < ((f_X8_thereBy to (upd wst0_43 (60 + pe.toNatClampNeg) (nI k_43)) pe.toNatClampNeg (nI k_43)) + (to (13 + pe.toNatClampNeg))) then nI 0 else nI 1) = 0 then nI 0 else (f_X8_fineOf to (upd wst0_43 (60 + pe.toNatClampNeg) (nI k_43)) pe.toNatClampNeg))), (7, .int (if nI 60 < ((f_X8_thereBy to (upd wst0_43 (60 + pe.toNatClampNeg) (nI k_43)) pe.toNatClampNeg (nI k_43)) + (to (13 + pe.toNatClampNeg))) then nI 0 else nI 1)), (3, .int (st (60 + pe.toNatClampNeg))), (0, .ref (ad 0)), (1, .int (nI pe.toNatClampNeg)), (2, .int wh)]) hx hb dX8_best_131 hl (k := 4) rfl (nI_p1 _) (by decide) rfl (fun ls hl => ?_)
                  refine lv_goto (tgt := 43) hx hb dX8_best_134 (by decide) ?_
                  exact ih_43 (k_43 + 1) (if (if nI 60 < ((f_X8_thereBy to (upd wst0_43 (60 + pe.toNatClampNeg) (nI k_43)) pe.toNatClampNeg (nI k_43)) + (to (13 + pe.toNatClampNeg))) then nI 0 else nI 1) = 0 then nI 0 else (f_X8_fineOf to (upd wst0_43 (60 + pe.toNatClampNeg) (nI k_43)) pe.toNatClampNeg)) (nI k_43) (upd wst0_43 (60 + pe.toNatClampNeg) (nI k_43)) (by omega) (so_upd hsw (by omega)) (by have e9 := hL_43; rw [L_X8_best_43, if_neg c_4, if_pos c_5] at e9; exact e9) _ _ ls hP hS (lv_sub hl [0, 1, 2, 5, 6, 7, 8] rfl)
                · refine lv_iload hx hb dX8_best_116 (lv_at hl 0 rfl) ?_
                  refine lv_iload hx hb dX8_best_118 (lv_at hl 3 rfl) ?_
                  refine lv_icmp_ge (tgt := 131) hx hb dX8_best_120 (by decide) (fun c_6 => ?_) (fun c_6 => ?_)
                  · refine mv_iinc (y := k_43 + 1) (lv' := [(6, .int (nI (k_43 + 1))), (8, .int (if (if nI 60 < ((f_X8_thereBy to (upd wst0_43 (60 + pe.toNatClampNeg) (nI k_43)) pe.toNatClampNeg (nI k_43)) + (to (13 + pe.toNatClampNeg))) then nI 0 else nI 1) = 0 then nI 0 else (f_X8_fineOf to (upd wst0_43 (60 + pe.toNatClampNeg) (nI k_43)) pe.toNatClampNeg))), (7, .int (if nI 60 < ((f_X8_thereBy to (upd wst0_43 (60 + pe.toNatClampNeg) (nI k_43)) pe.toNatClampNeg (nI k_43)) + (to (13 + pe.toNatClampNeg))) then nI 0 else nI 1)), (5, .int x5_43), (4, .int x4_43), (3, .int (st (60 + pe.toNatClampNeg))), (0, .ref (ad 0)), (1, .int (nI pe.toNatClampNeg)), (2, .int wh)]) hx hb dX8_best_131 hl (k := 2) rfl (nI_p1 _) (by decide) rfl (fun ls hl => ?_)
                    refine lv_goto (tgt := 43) hx hb dX8_best_134 (by decide) ?_
                    exact ih_43 (k_43 + 1) x5_43 x4_43 (upd wst0_43 (60 + pe.toNatClampNeg) (nI k_43)) (by omega) (so_upd hsw (by omega)) (by have e9 := hL_43; rw [L_X8_best_43, if_neg c_4, if_neg c_5, if_pos c_6] at e9; exact e9) _ _ ls hP hS (lv_sub hl [0, 3, 4, 5, 6, 7, 8] rfl)
                  · refine lv_iload hx hb dX8_best_123 (lv_at hl 2 rfl) ?_
                    refine lv_istore (lv' := [(4, .int (nI k_43)), (8, .int (if (if nI 60 < ((f_X8_thereBy to (upd wst0_43 (60 + pe.toNatClampNeg) (nI k_43)) pe.toNatClampNeg (nI k_43)) + (to (13 + pe.toNatClampNeg))) then nI 0 else nI 1) = 0 then nI 0 else (f_X8_fineOf to (upd wst0_43 (60 + pe.toNatClampNeg) (nI k_43)) pe.toNatClampNeg))), (7, .int (if nI 60 < ((f_X8_thereBy to (upd wst0_43 (60 + pe.toNatClampNeg) (nI k_43)) pe.toNatClampNeg (nI k_43)) + (to (13 + pe.toNatClampNeg))) then nI 0 else nI 1)), (6, .int (nI k_43)), (5, .int x5_43), (3, .int (st (60 + pe.toNatClampNeg))), (0, .ref (ad 0)), (1, .int (nI pe.toNatClampNeg)), (2, .int wh)]) hx hb dX8_best_125 hl (by decide) rfl (fun ls hl => ?_)
                    refine lv_iload hx hb dX8_best_127 (lv_at hl 1 rfl) ?_
                    refine lv_istore (lv' := [(5, .int (if (if nI 60 < ((f_X8_thereBy to (upd wst0_43 (60 + pe.toNatClampNeg) (nI k_43)) pe.toNatClampNeg (nI k_43)) + (to (13 + pe.toNatClampNeg))) then nI 0 else nI 1) = 0 then nI 0 else (f_X8_fineOf to (upd wst0_43 (60 + pe.toNatClampNeg) (nI k_43)) pe.toNatClampNeg))), (4, .int (nI k_43)), (8, .int (if (if nI 60 < ((f_X8_thereBy to (upd wst0_43 (60 + pe.toNatClampNeg) (nI k_43)) pe.toNatClampNeg (nI k_43)) + (to (13 + pe.toNatClampNeg))) then nI 0 else nI 1) = 0 then nI 0 else (f_X8_fineOf to (upd wst0_43 (60 + pe.toNatClampNeg) (nI k_43)) pe.toNatClampNeg))), (7, .int (if nI 60 < ((f_X8_thereBy to (upd wst0_43 (60 + pe.toNatClampNeg) (nI k_43)) pe.toNatClampNeg (nI k_43)) + (to (13 + pe.toNatClampNeg))) then nI 0 else nI 1)), (6, .int (nI k_43)), (3, .int (st (60 + pe.toNatClampNeg))), (0, .ref (ad 0)), (1, .int (nI pe.toNatClampNeg)), (2, .int wh)]) hx hb dX8_best_129 hl (by decide) rfl (fun ls hl => ?_)
                    refine mv_iinc (y := k_43 + 1) (lv' := [(6, .int (nI (k_43 + 1))), (5, .int (if (if nI 60 < ((f_X8_thereBy to (upd wst0_43 (60 + pe.toNatClampNeg) (nI k_43)) pe.toNatClampNeg (nI k_43)) + (to (13 + pe.toNatClampNeg))) then nI 0 else nI 1) = 0 then nI 0 else (f_X8_fineOf to (upd wst0_43 (60 + pe.toNatClampNeg) (nI k_43)) pe.toNatClampNeg))), (4, .int (nI k_43)), (8, .int (if (if nI 60 < ((f_X8_thereBy to (upd wst0_43 (60 + pe.toNatClampNeg) (nI k_43)) pe.toNatClampNeg (nI k_43)) + (to (13 + pe.toNatClampNeg))) then nI 0 else nI 1) = 0 then nI 0 else (f_X8_fineOf to (upd wst0_43 (60 + pe.toNatClampNeg) (nI k_43)) pe.toNatClampNeg))), (7, .int (if nI 60 < ((f_X8_thereBy to (upd wst0_43 (60 + pe.toNatClampNeg) (nI k_43)) pe.toNatClampNeg (nI k_43)) + (to (13 + pe.toNatClampNeg))) then nI 0 else nI 1)), (3, .int (st (60 + pe.toNatClampNeg))), (0, .ref (ad 0)), (1, .int (nI pe.toNatClampNeg)), (2, .int wh)]) hx hb dX8_best_131 hl (k := 4) rfl (nI_p1 _) (by decide) rfl (fun ls hl => ?_)
                    refine lv_goto (tgt := 43) hx hb dX8_best_134 (by decide) ?_
                    exact ih_43 (k_43 + 1) (if (if nI 60 < ((f_X8_thereBy to (upd wst0_43 (60 + pe.toNatClampNeg) (nI k_43)) pe.toNatClampNeg (nI k_43)) + (to (13 + pe.toNatClampNeg))) then nI 0 else nI 1) = 0 then nI 0 else (f_X8_fineOf to (upd wst0_43 (60 + pe.toNatClampNeg) (nI k_43)) pe.toNatClampNeg)) (nI k_43) (upd wst0_43 (60 + pe.toNatClampNeg) (nI k_43)) (by omega) (so_upd hsw (by omega)) (by have e9 := hL_43; rw [L_X8_best_43, if_neg c_4, if_neg c_5, if_neg c_6] at e9; exact e9) _ _ ls hP hS (lv_sub hl [0, 1, 2, 5, 6, 7, 8] rfl)
            · refine lv_if_eq (tgt := 103) hx hb dX8_best_92 (by decide) (fun c_8 => ?_) (fun c_8 => ?_)
              · refine lv_iconst (v := nI 0) hx hb dX8_best_103 rfl ?_
                exact J_7 _ (by rw [if_pos c_8])
              · refine lv_aload_n hx hb dX8_best_95 rfl (lv_at hl 5 rfl) ?_
                refine lv_iload_n hx hb dX8_best_96 rfl (lv_at hl 6 rfl) ?_
                refine vp_callSi (va_Run.run (va_runV (As := [.int (nI pe.toNatClampNeg)]) (rest := []) ⟨hx, hb, hml, hown, hts⟩ (c_X8_fineOf l D cI cL cZ ad A to (upd wst0_43 (60 + pe.toNatClampNeg) (nI k_43)) mt rd un kp rw se pe.toNatClampNeg (by first | assumption | omega) (so_upd hsw (by omega))) (cwV 1 hts gX8_best_X8_fineOf rfl rfl rfl (by decide +kernel) ⟨Nat.le_of_ble_eq_true rfl, Nat.le_of_ble_eq_true rfl⟩) ⟨sR_fb, va_recv hK hP (ci := 8) (q0 := 0) rfl rfl, sR_at hP hK hD hE⟩ rfl rfl hl.1 rfl (lv_room (Nat.le_of_ble_eq_true rfl)) dX8_best_97 ⟨Nat.zero_le _, Nat.zero_le _⟩)) (fun r hr => ?_)
                subst hr
                refine lv_goto (tgt := 104) hx hb dX8_best_100 (by decide) ?_
                exact J_7 _ (by rw [if_neg c_8])
          · refine lv_icmp_gt (tgt := 87) hx hb dX8_best_80 (by decide) (fun c_10 => ?_) (fun c_10 => ?_)
            · refine lv_iconst (v := nI 0) hx hb dX8_best_87 rfl ?_
              exact J_9 _ (by rw [if_pos c_10])
            · refine lv_iconst (v := nI 1) hx hb dX8_best_83 rfl ?_
              refine lv_goto (tgt := 88) hx hb dX8_best_84 (by decide) ?_
              exact J_9 _ (by rw [if_neg c_10])
      exact loop_43 60 0 (nI 0) (-1 : Int32) st (by omega) hso hT_43_1.symm _ _ ls hP hS (lv_sub hl [0, 1, 2, 3, 4, 5, 6] rfl)
    · refine lv_bipush (v := (-3)) hx hb dX8_best_21 rfl ?_
      subst hQe
      have hf : (f_X8_best to st pe wh) = ((-3 : Int32), st) := by rw [f_X8_best, if_neg c_1, if_pos c_2]
      exact W.iret (v := (-3 : Int32)) hx hb hr (fun t ht hW => ⟨⟨(-3 : Int32), st, rfl, ⟨(congrArg Prod.fst hf).symm, (congrArg Prod.snd hf).symm⟩, va_Pt ht hP⟩, hS.F ht⟩) hS.2.2 dX8_best_23
  · refine lv_bipush (v := (-2)) hx hb dX8_best_8 rfl ?_
    subst hQe
    have hf : (f_X8_best to st pe wh) = ((-2 : Int32), st) := by rw [f_X8_best, if_pos c_1]
    exact W.iret (v := (-2 : Int32)) hx hb hr (fun t ht hW => ⟨⟨(-2 : Int32), st, rfl, ⟨(congrArg Prod.fst hf).symm, (congrArg Prod.snd hf).symm⟩, va_Pt ht hP⟩, hS.F ht⟩) hS.2.2 dX8_best_10
def f_X8_arePeople (to : (Nat → Int32)) (set : Int32) : Int32 := (f_X8_in set.toInt64 (0 : Int64) ((((nI 1) <<< ((nI (mN to)) &&& 31)) - (nI 1)).toInt64))
theorem f_X8_arePeople_b (to : (Nat → Int32)) (set : Int32) : (f_X8_arePeople to set) = nI 0 ∨ (f_X8_arePeople to set) = nI 1 := by
  unfold f_X8_arePeople
  (repeat' split) <;> first | exact Or.inl rfl | exact Or.inr rfl | exact f_X8_in_b _ _ _
abbrev rm_X8_arePeople : Room := { frames := 1, cells := 0, slots := 0, locals := 25 }
set_option maxHeartbeats 4000000 in
set_option maxRecDepth 100000 in
theorem c_X8_arePeople (l : Launch) (D : va_G) (cI cL cZ : ClassId) (ad : Nat → Nat) (A : Nat → Prop) (to : (Nat → Int32)) (st : (Nat → Int32)) (mt : MTx) (rd : (Nat → Int32)) (un : MUn) (kp : MKp) (rw : MKp) (se : MUn) (set : Int32) (hm : to 0 = nI (mN to)) (hm6 : mN to ≤ 6) : Met l yX8_arePeople wsX8_arePeople rm_X8_arePeople (va_Pc [.ref (ad 0), .int set] (sR D cI cL cZ A (mW cI cL cZ ad to st mt rd un kp rw se))) (vp_Si (fun r => r = (f_X8_arePeople to set))) 0 0 (fun _ => False) := by
  refine Met.ofW (cc := cX8_arePeople) (maxL := 2) (ret := (some .boolean)) (by decide) rfl ?_
  intro p e s m args below meth c s₁ B hml hv
  obtain ⟨rfl, hP, hK, hD, hE⟩ := hv
  have hx := B.exec
  have hb := B.bytes
  have hr := B.returns
  have hts := atoms_spec (ws := wsX8_arePeople) B.pre
  have hown : s.vm.findClass RX8 = some m.cls := findClass_of_methodNamed B.named
  have hlocks := B.notSynchronized
  have hl := lv_entry ([.ref (ad 0), .int set]) (n := 2) (Nat.le_of_ble_eq_true rfl)
  rw [lg_entry_eq]
  generalize (lg_sl ([.ref (ad 0), .int set]) ++ List.replicate (2 - (lg_sl ([.ref (ad 0), .int set])).length) Slot.unset).toArray = ls at hl ⊢
  have hl : lv_has ls 2 [(0, .ref (ad 0)), (1, .int set)] := hl
  refine lv_iload_n hx hb dX8_arePeople_0 rfl (lv_at hl 1 rfl) ?_
  refine lv_i2l hx hb dX8_arePeople_1 rfl ?_
  refine lv_lconst (v := 0) hx hb dX8_arePeople_2 rfl ?_
  refine lv_iconst (v := nI 1) hx hb dX8_arePeople_3 rfl ?_
  refine lv_aload_n hx hb dX8_arePeople_4 rfl (lv_at hl 0 rfl) ?_
  refine va_get (D := D) (ci := 8) (v := .ref (ad 1)) (C := RX8) (T := TX8) (N := 18) hx hb hts (by decide +kernel) hown hK hP 0 rfl rfl 0 (by decide) (hts (.fieldLink RX8 7 "SummitTimeModel" "told" "[I") (by decide +kernel)) (fun _ h9 => h9) rfl dX8_arePeople_5 ?_
  refine lv_iconst (v := nI 0) hx hb dX8_arePeople_8 rfl ?_
  refine mv_iald (f := to) hx hb hK hP 1 0 rfl rfl (by decide) (by decide) dX8_arePeople_9 ?_
  refine mv_top (y := nI (mN to)) hm ?_
  refine lv_ishl hx hb dX8_arePeople_10 ?_
  refine lv_iconst (v := nI 1) hx hb dX8_arePeople_11 rfl ?_
  refine lv_isub hx hb dX8_arePeople_12 ?_
  refine lv_i2l hx hb dX8_arePeople_13 rfl ?_
  refine vp_callSi (va_Run.run (va_runS (As := [.long set.toInt64, .long (0 : Int64), .long ((((nI 1) <<< ((nI (mN to)) &&& 31)) - (nI 1)).toInt64)]) (rest := []) ⟨hx, hb, hml, hown, hts⟩ (c_X8_in l set.toInt64 (0 : Int64) ((((nI 1) <<< ((nI (mN to)) &&& 31)) - (nI 1)).toInt64) ) (va_cwS 3 hts gX8_arePeople_X8_in rfl rfl rfl (by decide +kernel) ⟨Nat.le_of_ble_eq_true rfl, Nat.le_of_ble_eq_true rfl⟩) ⟨pR_fb, pR_at⟩ rfl rfl hl.1 rfl (lv_room (Nat.le_of_ble_eq_true rfl)) dX8_arePeople_14 ⟨Nat.zero_le _, Nat.zero_le _⟩)) (fun r hr => ?_)
  subst hr
  have hf : (f_X8_arePeople to set) = (f_X8_in set.toInt64 (0 : Int64) ((((nI 1) <<< ((nI (mN to)) &&& 31)) - (nI 1)).toInt64)) := by rw [f_X8_arePeople]
  exact W.zret (v := (f_X8_in set.toInt64 (0 : Int64) ((((nI 1) <<< ((nI (mN to)) &&& 31)) - (nI 1)).toInt64))) (ty := .boolean) hx hb hr (nb_of (f_X8_in_b set.toInt64 (0 : Int64) ((((nI 1) <<< ((nI (mN to)) &&& 31)) - (nI 1)).toInt64))) (fun t ht hW => ⟨(f_X8_in set.toInt64 (0 : Int64) ((((nI 1) <<< ((nI (mN to)) &&& 31)) - (nI 1)).toInt64)), rfl, hf.symm, ht⟩) (fun _ h => by cases h) dX8_arePeople_17
def L_X8_free_17 (to : (Nat → Int32)) (st : (Nat → Int32)) (pe : Int32) : Nat → Nat → Int64 → Int64
  | 0, _, x2_17 => x2_17
  | n_17 + 1, k_17, x2_17 => (L_X8_free_17 to st pe n_17 (k_17 + 1) (x2_17 ||| (if (f_X8_costs to st pe.toNatClampNeg k_17) = 0 then ((1 : Int64) <<< ((nI k_17).toInt64 &&& 63)) else (0 : Int64))))
def f_X8_free (to : (Nat → Int32)) (st : (Nat → Int32)) (pe : Int32) : Int64 := (if (f_X8_isPerson to pe) = 0 then (-2 : Int64) else (L_X8_free_17 to st pe 60 0 (0 : Int64)))
abbrev rm_X8_free : Room := { frames := 2, cells := 0, slots := 0, locals := 46 }
set_option maxHeartbeats 4000000 in
set_option maxRecDepth 100000 in
theorem c_X8_free (l : Launch) (D : va_G) (cI cL cZ : ClassId) (ad : Nat → Nat) (A : Nat → Prop) (to : (Nat → Int32)) (st : (Nat → Int32)) (mt : MTx) (rd : (Nat → Int32)) (un : MUn) (kp : MKp) (rw : MKp) (se : MUn) (pe : Int32) (hm : to 0 = nI (mN to)) (hm6 : mN to ≤ 6) (hso : ∀ j, j < 60 → (st j).toNatClampNeg < 6) : Met l yX8_free wsX8_free rm_X8_free (va_Pc [.ref (ad 0), .int pe] (sR D cI cL cZ A (mW cI cL cZ ad to st mt rd un kp rw se))) (vp_Sl (fun r => r = (f_X8_free to st pe))) 0 0 (fun _ => False) := by
  refine Met.ofW (cc := cX8_free) (maxL := 5) (ret := (some .long)) (by decide) rfl ?_
  intro p e s m args below meth c s₁ B hml hv
  obtain ⟨rfl, hP, hK, hD, hE⟩ := hv
  have hx := B.exec
  have hb := B.bytes
  have hr := B.returns
  have hts := atoms_spec (ws := wsX8_free) B.pre
  have hown : s.vm.findClass RX8 = some m.cls := findClass_of_methodNamed B.named
  have hlocks := B.notSynchronized
  have hl := lv_entry ([.ref (ad 0), .int pe]) (n := 5) (Nat.le_of_ble_eq_true rfl)
  rw [lg_entry_eq]
  generalize (lg_sl ([.ref (ad 0), .int pe]) ++ List.replicate (5 - (lg_sl ([.ref (ad 0), .int pe])).length) Slot.unset).toArray = ls at hl ⊢
  have hl : lv_has ls 5 [(0, .ref (ad 0)), (1, .int pe)] := hl
  obtain ⟨Q, hQe⟩ : ∃ Q, Q = MQ below (vp_Sl (fun r => r = (f_X8_free to st pe))) ([.ref (ad 0), .int pe] : List Value).toArray s 0 0 (fun _ => False) := ⟨_, rfl⟩
  show W p l e (headSpec wsX8_free rm_X8_free).room s m ([.ref (ad 0), .int pe] : List Value).toArray below meth c s.heap [] 0 0 (MQ below (vp_Sl (fun r => r = (f_X8_free to st pe))) ([.ref (ad 0), .int pe] : List Value).toArray s 0 0 (fun _ => False)) (F0 m 0 ls [])
  rw [← hQe]
  refine lv_aload_n hx hb dX8_free_0 rfl (lv_at hl 0 rfl) ?_
  refine lv_iload_n hx hb dX8_free_1 rfl (lv_at hl 1 rfl) ?_
  refine vp_callSi (va_Run.run (va_runV (As := [.int pe]) (rest := []) ⟨hx, hb, hml, hown, hts⟩ (c_X8_isPerson l D cI cL cZ ad A to st mt rd un kp rw se pe (by first | assumption | omega) (by first | assumption | omega)) (cwV 1 hts gX8_free_X8_isPerson rfl rfl rfl (by decide +kernel) ⟨Nat.le_of_ble_eq_true rfl, Nat.le_of_ble_eq_true rfl⟩) ⟨sR_fb, va_recv hK hP (ci := 8) (q0 := 0) rfl rfl, sR_at hP hK hD hE⟩ rfl rfl hl.1 rfl (lv_room (Nat.le_of_ble_eq_true rfl)) dX8_free_2 ⟨Nat.zero_le _, Nat.zero_le _⟩)) (fun r hr => ?_)
  subst hr
  refine lv_if_ne (tgt := 12) hx hb dX8_free_5 (by decide) (fun c_1 => ?_) (fun c_1 => ?_)
  · have hpl : pe.toNatClampNeg < mN to := isP_lt hm6 c_1
    have hl : lv_has ls 5 [(0, .ref (ad 0)), (1, .int (nI pe.toNatClampNeg))] := by have h9 := hl; rw [isP_nat c_1] at h9; exact h9
    refine lv_lconst (v := 0) hx hb dX8_free_12 rfl ?_
    refine lv_lstore_n (lv' := [(2, .long (0 : Int64)), (0, .ref (ad 0)), (1, .int (nI pe.toNatClampNeg))]) hx hb dX8_free_13 rfl hl (by decide) rfl (fun ls hl => ?_)
    refine lv_iconst (v := nI 0) hx hb dX8_free_14 rfl ?_
    refine lv_istore (lv' := [(4, .int (nI 0)), (2, .long (0 : Int64)), (0, .ref (ad 0)), (1, .int (nI pe.toNatClampNeg))]) hx hb dX8_free_15 hl (by decide) rfl (fun ls hl => ?_)
    obtain ⟨T_17_1, hT_17_1⟩ : ∃ z, z = (L_X8_free_17 to st pe 60 0 (0 : Int64)) := ⟨_, rfl⟩
    have hexit_17 : ∀ (ls : Array Slot), lv_has ls 5 [(2, .long T_17_1), (0, .ref (ad 0)), (1, .int (nI pe.toNatClampNeg))] → W p l e (headSpec wsX8_free rm_X8_free).room s m ([.ref (ad 0), .int pe] : List Value).toArray below meth c s.heap [] 0 0 Q (F0 m 51 ls []) := by
      intro ls hl
      refine lv_lload_n hx hb dX8_free_51 rfl (lv_at hl 0 rfl) ?_
      subst hQe
      have hf : (f_X8_free to st pe) = T_17_1 := by subst hT_17_1; rw [f_X8_free, if_neg c_1]
      exact W.lret (v := T_17_1) hx hb hr (fun t ht hW => ⟨T_17_1, rfl, hf.symm, ht⟩) (fun _ h => by cases h) dX8_free_52
    have loop_17 : ∀ (n_17 : Nat) (k_17 : Nat) (x2_17 : Int64), (k_17 + n_17 = 60) → L_X8_free_17 to st pe n_17 k_17 x2_17 = T_17_1 → ∀ (ls : Array Slot), lv_has ls 5 [(4, .int (nI k_17)), (2, .long x2_17), (0, .ref (ad 0)), (1, .int (nI pe.toNatClampNeg))] → W p l e (headSpec wsX8_free rm_X8_free).room s m ([.ref (ad 0), .int pe] : List Value).toArray below meth c s.heap [] 0 0 Q (F0 m 17 ls []) := by
      intro n_17
      induction n_17 with
      | zero =>
        intro k_17 x2_17 hk_17 hL_17 ls hl
        refine lv_iload hx hb dX8_free_17 (lv_at hl 0 rfl) ?_
        refine lv_bipush (v := nI 60) hx hb dX8_free_19 rfl ?_
        refine mv_icmp_ge (tgt := 51) hx hb dX8_free_21 (by decide) (by omega) (by decide) (fun c_5 => ?_) (fun c_5 => (by omega : False).elim)
        have e9 : T_17_1 = x2_17 := by rw [← hL_17, L_X8_free_17]
        have hq := hexit_17
        rw [e9] at hq
        exact hq ls  (lv_sub hl [1, 2, 3] rfl)
      | succ n_17 ih_17 =>
        intro k_17 x2_17 hk_17 hL_17 ls hl
        refine lv_iload hx hb dX8_free_17 (lv_at hl 0 rfl) ?_
        refine lv_bipush (v := nI 60) hx hb dX8_free_19 rfl ?_
        refine mv_icmp_ge (tgt := 51) hx hb dX8_free_21 (by decide) (by omega) (by decide) (fun c_2 => (by omega : False).elim) (fun c_2 => ?_)
        refine lv_lload_n hx hb dX8_free_24 rfl (lv_at hl 1 rfl) ?_
        refine lv_aload_n hx hb dX8_free_25 rfl (lv_at hl 2 rfl) ?_
        refine lv_iload_n hx hb dX8_free_26 rfl (lv_at hl 3 rfl) ?_
        refine lv_iload hx hb dX8_free_27 (lv_at hl 0 rfl) ?_
        refine vp_callSi (va_Run.run (va_runV (As := [.int (nI pe.toNatClampNeg), .int (nI k_17)]) (rest := [.long x2_17]) ⟨hx, hb, hml, hown, hts⟩ (c_X8_costs l D cI cL cZ ad A to st mt rd un kp rw se pe.toNatClampNeg k_17 (by first | assumption | omega) (by first | assumption | omega) (by first | assumption | omega)) (cwV 2 hts gX8_free_X8_costs rfl rfl rfl (by decide +kernel) ⟨Nat.le_of_ble_eq_true rfl, Nat.le_of_ble_eq_true rfl⟩) ⟨sR_fb, va_recv hK hP (ci := 8) (q0 := 0) rfl rfl, sR_at hP hK hD hE⟩ rfl rfl hl.1 rfl (lv_room (Nat.le_of_ble_eq_true rfl)) dX8_free_29 ⟨Nat.zero_le _, Nat.zero_le _⟩)) (fun r hr => ?_)
        subst hr
        refine mv_phil (v := (if (f_X8_costs to st pe.toNatClampNeg k_17) = 0 then ((1 : Int64) <<< ((nI k_17).toInt64 &&& 63)) else (0 : Int64))) (pcj := 43) (ls := ls) (rest' := [.long x2_17]) ?_ (fun J_3 => ?_)
        · refine lv_lor hx hb dX8_free_43 ?_
          refine lv_lstore_n (lv' := [(2, .long (x2_17 ||| (if (f_X8_costs to st pe.toNatClampNeg k_17) = 0 then ((1 : Int64) <<< ((nI k_17).toInt64 &&& 63)) else (0 : Int64)))), (4, .int (nI k_17)), (0, .ref (ad 0)), (1, .int (nI pe.toNatClampNeg))]) hx hb dX8_free_44 rfl hl (by decide) rfl (fun ls hl => ?_)
          refine mv_iinc (y := k_17 + 1) (lv' := [(4, .int (nI (k_17 + 1))), (2, .long (x2_17 ||| (if (f_X8_costs to st pe.toNatClampNeg k_17) = 0 then ((1 : Int64) <<< ((nI k_17).toInt64 &&& 63)) else (0 : Int64)))), (0, .ref (ad 0)), (1, .int (nI pe.toNatClampNeg))]) hx hb dX8_free_45 hl (k := 1) rfl (nI_p1 _) (by decide) rfl (fun ls hl => ?_)
          refine lv_goto (tgt := 17) hx hb dX8_free_48 (by decide) ?_
          exact ih_17 (k_17 + 1) (x2_17 ||| (if (f_X8_costs to st pe.toNatClampNeg k_17) = 0 then ((1 : Int64) <<< ((nI k_17).toInt64 &&& 63)) else (0 : Int64))) (by omega) (by have e9 := hL_17; rw [L_X8_free_17] at e9; exact e9) ls (lv_sub hl [0, 1, 2, 3] rfl)
        · refine lv_if_ne (tgt := 42) hx hb dX8_free_32 (by decide) (fun c_4 => ?_) (fun c_4 => ?_)
          · refine lv_lconst (v := 0) hx hb dX8_free_42 rfl ?_
            exact J_3 _ (by rw [if_neg c_4])
          · refine lv_lconst (v := 1) hx hb dX8_free_35 rfl ?_
            refine lv_iload hx hb dX8_free_36 (lv_at hl 0 rfl) ?_
            refine lv_lshl hx hb dX8_free_38 rfl ?_
            refine lv_goto (tgt := 43) hx hb dX8_free_39 (by decide) ?_
            exact J_3 _ (by rw [if_pos c_4])
    exact loop_17 60 0 (0 : Int64) (by omega) hT_17_1.symm ls (lv_sub hl [0, 1, 2, 3] rfl)
  · refine lv_ldc2 (v := (-2)) hx hb hown (hts (.constantLong RX8 183 (-2)) (by decide +kernel)) dX8_free_8 ?_
    subst hQe
    have hf : (f_X8_free to st pe) = (-2 : Int64) := by rw [f_X8_free, if_pos c_1]
    exact W.lret (v := (-2 : Int64)) hx hb hr (fun t ht hW => ⟨(-2 : Int64), rfl, hf.symm, ht⟩) (fun _ h => by cases h) dX8_free_11
def L_X8_ropes_22 (to : (Nat → Int32)) (st : (Nat → Int32)) (nn : Int32) : Nat → Nat → Int32 → Int32 → Int32 × Int32
  | 0, _, x3_22, x2_22 => (x3_22, x2_22)
  | n_22 + 1, k_22, x3_22, x2_22 => (L_X8_ropes_22 to st nn n_22 (k_22 + 1) (if x3_22 = 0 then nI 0 else (if nn < ((f_X8_fullFine to st k_22) / (nI 2)) then nI 0 else nI 1)) (x2_22 ||| (if (f_X8_fullFine to st k_22) ≤ nn then nI 0 else ((nI 1) <<< ((nI k_22) &&& 31)))))
def f_X8_ropes (to : (Nat → Int32)) (st : (Nat → Int32)) (nn : Int32) : Int32 := (if (f_X8_in nn.toInt64 (0 : Int64) (99 : Int64)) = 0 then (-3 : Int32) else (if (L_X8_ropes_22 to st nn (mN to) 0 (nI 1) (nI 0)).1 = 0 then (-1 : Int32) else (L_X8_ropes_22 to st nn (mN to) 0 (nI 1) (nI 0)).2))
abbrev rm_X8_ropes : Room := { frames := 4, cells := 0, slots := 0, locals := 92 }
set_option maxHeartbeats 4000000 in
set_option maxRecDepth 100000 in
theorem c_X8_ropes (l : Launch) (D : va_G) (cI cL cZ : ClassId) (ad : Nat → Nat) (A : Nat → Prop) (to : (Nat → Int32)) (st : (Nat → Int32)) (mt : MTx) (rd : (Nat → Int32)) (un : MUn) (kp : MKp) (rw : MKp) (se : MUn) (nn : Int32) (hm : to 0 = nI (mN to)) (hm6 : mN to ≤ 6) (hso : ∀ j, j < 60 → (st j).toNatClampNeg < 6) : Met l yX8_ropes wsX8_ropes rm_X8_ropes (va_Pc [.ref (ad 0), .int nn] (sR D cI cL cZ A (mW cI cL cZ ad to st mt rd un kp rw se))) (vp_Si (fun r => r = (f_X8_ropes to st nn))) 0 0 (fun _ => False) := by
  refine Met.ofW (cc := cX8_ropes) (maxL := 6) (ret := (some .int)) (by decide) rfl ?_
  intro p e s m args below meth c s₁ B hml hv
  obtain ⟨rfl, hP, hK, hD, hE⟩ := hv
  have hx := B.exec
  have hb := B.bytes
  have hr := B.returns
  have hts := atoms_spec (ws := wsX8_ropes) B.pre
  have hown : s.vm.findClass RX8 = some m.cls := findClass_of_methodNamed B.named
  have hlocks := B.notSynchronized
  have hl := lv_entry ([.ref (ad 0), .int nn]) (n := 6) (Nat.le_of_ble_eq_true rfl)
  rw [lg_entry_eq]
  generalize (lg_sl ([.ref (ad 0), .int nn]) ++ List.replicate (6 - (lg_sl ([.ref (ad 0), .int nn])).length) Slot.unset).toArray = ls at hl ⊢
  have hl : lv_has ls 6 [(0, .ref (ad 0)), (1, .int nn)] := hl
  obtain ⟨Q, hQe⟩ : ∃ Q, Q = MQ below (vp_Si (fun r => r = (f_X8_ropes to st nn))) ([.ref (ad 0), .int nn] : List Value).toArray s 0 0 (fun _ => False) := ⟨_, rfl⟩
  show W p l e (headSpec wsX8_ropes rm_X8_ropes).room s m ([.ref (ad 0), .int nn] : List Value).toArray below meth c s.heap [] 0 0 (MQ below (vp_Si (fun r => r = (f_X8_ropes to st nn))) ([.ref (ad 0), .int nn] : List Value).toArray s 0 0 (fun _ => False)) (F0 m 0 ls [])
  rw [← hQe]
  refine lv_iload_n hx hb dX8_ropes_0 rfl (lv_at hl 1 rfl) ?_
  refine lv_i2l hx hb dX8_ropes_1 rfl ?_
  refine lv_lconst (v := 0) hx hb dX8_ropes_2 rfl ?_
  refine lv_ldc2 (v := (99)) hx hb hown (hts (.constantLong RX8 185 (99)) (by decide +kernel)) dX8_ropes_3 ?_
  refine vp_callSi (va_Run.run (va_runS (As := [.long nn.toInt64, .long (0 : Int64), .long (99 : Int64)]) (rest := []) ⟨hx, hb, hml, hown, hts⟩ (c_X8_in l nn.toInt64 (0 : Int64) (99 : Int64) ) (va_cwS 3 hts gX8_ropes_X8_in rfl rfl rfl (by decide +kernel) ⟨Nat.le_of_ble_eq_true rfl, Nat.le_of_ble_eq_true rfl⟩) ⟨pR_fb, pR_at⟩ rfl rfl hl.1 rfl (lv_room (Nat.le_of_ble_eq_true rfl)) dX8_ropes_6 ⟨Nat.zero_le _, Nat.zero_le _⟩)) (fun r hr => ?_)
  subst hr
  refine lv_if_ne (tgt := 15) hx hb dX8_ropes_9 (by decide) (fun c_1 => ?_) (fun c_1 => ?_)
  · refine lv_iconst (v := nI 0) hx hb dX8_ropes_15 rfl ?_
    refine lv_istore_n (lv' := [(2, .int (nI 0)), (0, .ref (ad 0)), (1, .int nn)]) hx hb dX8_ropes_16 rfl hl (by decide) rfl (fun ls hl => ?_)
    refine lv_iconst (v := nI 1) hx hb dX8_ropes_17 rfl ?_
    refine lv_istore_n (lv' := [(3, .int (nI 1)), (2, .int (nI 0)), (0, .ref (ad 0)), (1, .int nn)]) hx hb dX8_ropes_18 rfl hl (by decide) rfl (fun ls hl => ?_)
    refine lv_iconst (v := nI 0) hx hb dX8_ropes_19 rfl ?_
    refine lv_istore (lv' := [(4, .int (nI 0)), (3, .int (nI 1)), (2, .int (nI 0)), (0, .ref (ad 0)), (1, .int nn)]) hx hb dX8_ropes_20 hl (by decide) rfl (fun ls hl => ?_)
    obtain ⟨T_22_1, hT_22_1⟩ : ∃ z, z = (L_X8_ropes_22 to st nn (mN to) 0 (nI 1) (nI 0)) := ⟨_, rfl⟩
    have hexit_22 : ∀ (ls : Array Slot), lv_has ls 6 [(3, .int T_22_1.1), (2, .int T_22_1.2), (0, .ref (ad 0)), (1, .int nn)] → W p l e (headSpec wsX8_ropes rm_X8_ropes).room s m ([.ref (ad 0), .int nn] : List Value).toArray below meth c s.heap [] 0 0 Q (F0 m 82 ls []) := by
      intro ls hl
      refine lv_iload_n hx hb dX8_ropes_82 rfl (lv_at hl 0 rfl) ?_
      refine mv_phi (v := (if T_22_1.1 = 0 then (-1 : Int32) else T_22_1.2)) (pcj := 91) (ls := ls) (rest' := []) ?_ (fun J_9 => ?_)
      · subst hQe
        have hf : (f_X8_ropes to st nn) = (if T_22_1.1 = 0 then (-1 : Int32) else T_22_1.2) := by subst hT_22_1; rw [f_X8_ropes, if_neg c_1]
        exact W.iret (v := (if T_22_1.1 = 0 then (-1 : Int32) else T_22_1.2)) hx hb hr (fun t ht hW => ⟨(if T_22_1.1 = 0 then (-1 : Int32) else T_22_1.2), rfl, hf.symm, ht⟩) (fun _ h => by cases h) dX8_ropes_91
      · refine lv_if_eq (tgt := 90) hx hb dX8_ropes_83 (by decide) (fun c_10 => ?_) (fun c_10 => ?_)
        · refine lv_iconst (v := (-1)) hx hb dX8_ropes_90 rfl ?_
          exact J_9 _ (by rw [if_pos c_10])
        · refine lv_iload_n hx hb dX8_ropes_86 rfl (lv_at hl 1 rfl) ?_
          refine lv_goto (tgt := 91) hx hb dX8_ropes_87 (by decide) ?_
          exact J_9 _ (by rw [if_neg c_10])
    have loop_22 : ∀ (n_22 : Nat) (k_22 : Nat) (x3_22 : Int32) (x2_22 : Int32), (k_22 + n_22 = mN to) → L_X8_ropes_22 to st nn n_22 k_22 x3_22 x2_22 = T_22_1 → ∀ (ls : Array Slot), lv_has ls 6 [(4, .int (nI k_22)), (3, .int x3_22), (2, .int x2_22), (0, .ref (ad 0)), (1, .int nn)] → W p l e (headSpec wsX8_ropes rm_X8_ropes).room s m ([.ref (ad 0), .int nn] : List Value).toArray below meth c s.heap [] 0 0 Q (F0 m 22 ls []) := by
      intro n_22
      induction n_22 with
      | zero =>
        intro k_22 x3_22 x2_22 hk_22 hL_22 ls hl
        refine lv_iload hx hb dX8_ropes_22 (lv_at hl 0 rfl) ?_
        refine lv_aload_n hx hb dX8_ropes_24 rfl (lv_at hl 3 rfl) ?_
        refine va_get (D := D) (ci := 8) (v := .ref (ad 1)) (C := RX8) (T := TX8) (N := 18) hx hb hts (by decide +kernel) hown hK hP 0 rfl rfl 0 (by decide) (hts (.fieldLink RX8 7 "SummitTimeModel" "told" "[I") (by decide +kernel)) (fun _ h9 => h9) rfl dX8_ropes_25 ?_
        refine lv_iconst (v := nI 0) hx hb dX8_ropes_28 rfl ?_
        refine mv_iald (f := to) hx hb hK hP 1 0 rfl rfl (by decide) (by decide) dX8_ropes_29 ?_
        refine mv_top (y := nI (mN to)) hm ?_
        refine mv_icmp_ge (tgt := 82) hx hb dX8_ropes_30 (by decide) (by omega) (by omega) (fun c_8 => ?_) (fun c_8 => (by omega : False).elim)
        have e9 : T_22_1 = (x3_22, x2_22) := by rw [← hL_22, L_X8_ropes_22]
        have hq := hexit_22
        rw [e9] at hq
        exact hq ls  (lv_sub hl [1, 2, 3, 4] rfl)
      | succ n_22 ih_22 =>
        intro k_22 x3_22 x2_22 hk_22 hL_22 ls hl
        refine lv_iload hx hb dX8_ropes_22 (lv_at hl 0 rfl) ?_
        refine lv_aload_n hx hb dX8_ropes_24 rfl (lv_at hl 3 rfl) ?_
        refine va_get (D := D) (ci := 8) (v := .ref (ad 1)) (C := RX8) (T := TX8) (N := 18) hx hb hts (by decide +kernel) hown hK hP 0 rfl rfl 0 (by decide) (hts (.fieldLink RX8 7 "SummitTimeModel" "told" "[I") (by decide +kernel)) (fun _ h9 => h9) rfl dX8_ropes_25 ?_
        refine lv_iconst (v := nI 0) hx hb dX8_ropes_28 rfl ?_
        refine mv_iald (f := to) hx hb hK hP 1 0 rfl rfl (by decide) (by decide) dX8_ropes_29 ?_
        refine mv_top (y := nI (mN to)) hm ?_
        refine mv_icmp_ge (tgt := 82) hx hb dX8_ropes_30 (by decide) (by omega) (by omega) (fun c_2 => (by omega : False).elim) (fun c_2 => ?_)
        refine lv_aload_n hx hb dX8_ropes_33 rfl (lv_at hl 3 rfl) ?_
        refine lv_iload hx hb dX8_ropes_34 (lv_at hl 0 rfl) ?_
        refine vp_callSi (va_Run.run (va_runV (As := [.int (nI k_22)]) (rest := []) ⟨hx, hb, hml, hown, hts⟩ (c_X8_fullFine l D cI cL cZ ad A to st mt rd un kp rw se k_22 (by first | assumption | omega) (by first | assumption | omega)) (cwV 1 hts gX8_ropes_X8_fullFine rfl rfl rfl (by decide +kernel) ⟨Nat.le_of_ble_eq_true rfl, Nat.le_of_ble_eq_true rfl⟩) ⟨sR_fb, va_recv hK hP (ci := 8) (q0 := 0) rfl rfl, sR_at hP hK hD hE⟩ rfl rfl hl.1 rfl (lv_room (Nat.le_of_ble_eq_true rfl)) dX8_ropes_36 ⟨Nat.zero_le _, Nat.zero_le _⟩)) (fun r hr => ?_)
        subst hr
        refine lv_istore (lv' := [(5, .int (f_X8_fullFine to st k_22)), (4, .int (nI k_22)), (3, .int x3_22), (2, .int x2_22), (0, .ref (ad 0)), (1, .int nn)]) hx hb dX8_ropes_39 hl (by decide) rfl (fun ls hl => ?_)
        refine lv_iload_n hx hb dX8_ropes_41 rfl (lv_at hl 3 rfl) ?_
        refine lv_iload hx hb dX8_ropes_42 (lv_at hl 0 rfl) ?_
        refine lv_iload_n hx hb dX8_ropes_44 rfl (lv_at hl 5 rfl) ?_
        refine mv_phi (v := (if (f_X8_fullFine to st k_22) ≤ nn then nI 0 else ((nI 1) <<< ((nI k_22) &&& 31)))) (pcj := 56) (ls := ls) (rest' := [.int x2_22]) ?_ (fun J_6 => ?_)
        · refine lv_ior hx hb dX8_ropes_56 ?_
          refine lv_istore_n (lv' := [(2, .int (x2_22 ||| (if (f_X8_fullFine to st k_22) ≤ nn then nI 0 else ((nI 1) <<< ((nI k_22) &&& 31))))), (5, .int (f_X8_fullFine to st k_22)), (4, .int (nI k_22)), (3, .int x3_22), (0, .ref (ad 0)), (1, .int nn)]) hx hb dX8_ropes_57 rfl hl (by decide) rfl (fun ls hl => ?_)
          refine lv_iload_n hx hb dX8_ropes_58 rfl (lv_at hl 3 rfl) ?_
          refine mv_phi (v := (if x3_22 = 0 then nI 0 else (if nn < ((f_X8_fullFine to st k_22) / (nI 2)) then nI 0 else nI 1))) (pcj := 75) (ls := ls) (rest' := []) ?_ (fun J_3 => ?_)
          · refine lv_istore_n (lv' := [(3, .int (if x3_22 = 0 then nI 0 else (if nn < ((f_X8_fullFine to st k_22) / (nI 2)) then nI 0 else nI 1))), (2, .int (x2_22 ||| (if (f_X8_fullFine to st k_22) ≤ nn then nI 0 else ((nI 1) <<< ((nI k_22) &&& 31))))), (5, .int (f_X8_fullFine to st k_22)), (4, .int (nI k_22)), (0, .ref (ad 0)), (1, .int nn)]) hx hb dX8_ropes_75 rfl hl (by decide) rfl (fun ls hl => ?_)
            refine mv_iinc (y := k_22 + 1) (lv' := [(4, .int (nI (k_22 + 1))), (3, .int (if x3_22 = 0 then nI 0 else (if nn < ((f_X8_fullFine to st k_22) / (nI 2)) then nI 0 else nI 1))), (2, .int (x2_22 ||| (if (f_X8_fullFine to st k_22) ≤ nn then nI 0 else ((nI 1) <<< ((nI k_22) &&& 31))))), (5, .int (f_X8_fullFine to st k_22)), (0, .ref (ad 0)), (1, .int nn)]) hx hb dX8_ropes_76 hl (k := 3) rfl (nI_p1 _) (by decide) rfl (fun ls hl => ?_)
            refine lv_goto (tgt := 22) hx hb dX8_ropes_79 (by decide) ?_
            exact ih_22 (k_22 + 1) (if x3_22 = 0 then nI 0 else (if nn < ((f_X8_fullFine to st k_22) / (nI 2)) then nI 0 else nI 1)) (x2_22 ||| (if (f_X8_fullFine to st k_22) ≤ nn then nI 0 else ((nI 1) <<< ((nI k_22) &&& 31)))) (by omega) (by have e9 := hL_22; rw [L_X8_ropes_22] at e9; exact e9) ls (lv_sub hl [0, 1, 2, 4, 5] rfl)
          · refine lv_if_eq (tgt := 74) hx hb dX8_ropes_59 (by decide) (fun c_4 => ?_) (fun c_4 => ?_)
            · refine lv_iconst (v := nI 0) hx hb dX8_ropes_74 rfl ?_
              exact J_3 _ (by rw [if_pos c_4])
            · refine lv_iload hx hb dX8_ropes_62 (lv_at hl 1 rfl) ?_
              refine lv_iconst (v := nI 2) hx hb dX8_ropes_64 rfl ?_
              refine lv_idiv hx hb dX8_ropes_65 (by decide) ?_
              refine lv_iload_n hx hb dX8_ropes_66 rfl (lv_at hl 5 rfl) ?_
              refine lv_icmp_gt (tgt := 74) hx hb dX8_ropes_67 (by decide) (fun c_5 => ?_) (fun c_5 => ?_)
              · refine lv_iconst (v := nI 0) hx hb dX8_ropes_74 rfl ?_
                exact J_3 _ (by rw [if_neg c_4, if_pos c_5])
              · refine lv_iconst (v := nI 1) hx hb dX8_ropes_70 rfl ?_
                refine lv_goto (tgt := 75) hx hb dX8_ropes_71 (by decide) ?_
                exact J_3 _ (by rw [if_neg c_4, if_neg c_5])
        · refine lv_icmp_le (tgt := 55) hx hb dX8_ropes_45 (by decide) (fun c_7 => ?_) (fun c_7 => ?_)
          · refine lv_iconst (v := nI 0) hx hb dX8_ropes_55 rfl ?_
            exact J_6 _ (by rw [if_pos c_7])
          · refine lv_iconst (v := nI 1) hx hb dX8_ropes_48 rfl ?_
            refine lv_iload hx hb dX8_ropes_49 (lv_at hl 1 rfl) ?_
            refine lv_ishl hx hb dX8_ropes_51 ?_
            refine lv_goto (tgt := 56) hx hb dX8_ropes_52 (by decide) ?_
            exact J_6 _ (by rw [if_neg c_7])
    exact loop_22 (mN to) 0 (nI 1) (nI 0) (by omega) hT_22_1.symm ls (lv_sub hl [0, 1, 2, 3, 4] rfl)
  · refine lv_bipush (v := (-3)) hx hb dX8_ropes_12 rfl ?_
    subst hQe
    have hf : (f_X8_ropes to st nn) = (-3 : Int32) := by rw [f_X8_ropes, if_pos c_1]
    exact W.iret (v := (-3 : Int32)) hx hb hr (fun t ht hW => ⟨(-3 : Int32), rfl, hf.symm, ht⟩) (fun _ h => by cases h) dX8_ropes_14
def L_X8_together_29 (to : (Nat → Int32)) (st : (Nat → Int32)) (pe : Int32) (ot : Int32) : Nat → Nat → Int32 → Int32
  | 0, _, x3_29 => x3_29
  | n_29 + 1, k_29, x3_29 => (L_X8_together_29 to st pe ot n_29 (k_29 + 1) (x3_29 + (if (f_X8_standsIn to st pe.toNatClampNeg (nI k_29)) = 0 then nI 0 else (if (f_X8_standsIn to st ot.toNatClampNeg (nI k_29)) = 0 then nI 0 else nI 1))))
def f_X8_together (to : (Nat → Int32)) (st : (Nat → Int32)) (pe : Int32) (ot : Int32) : Int32 := (if (f_X8_isPerson to pe) = 0 then (-2 : Int32) else (if (f_X8_isPerson to ot) = 0 then (-2 : Int32) else (if pe = ot then (-2 : Int32) else (L_X8_together_29 to st pe ot 60 0 (nI 0)))))
abbrev rm_X8_together : Room := { frames := 3, cells := 0, slots := 0, locals := 67 }
set_option maxHeartbeats 4000000 in
set_option maxRecDepth 100000 in
theorem c_X8_together (l : Launch) (D : va_G) (cI cL cZ : ClassId) (ad : Nat → Nat) (A : Nat → Prop) (to : (Nat → Int32)) (st : (Nat → Int32)) (mt : MTx) (rd : (Nat → Int32)) (un : MUn) (kp : MKp) (rw : MKp) (se : MUn) (pe : Int32) (ot : Int32) (hm : to 0 = nI (mN to)) (hm6 : mN to ≤ 6) : Met l yX8_together wsX8_together rm_X8_together (va_Pc [.ref (ad 0), .int pe, .int ot] (sR D cI cL cZ A (mW cI cL cZ ad to st mt rd un kp rw se))) (vp_Si (fun r => r = (f_X8_together to st pe ot))) 0 0 (fun _ => False) := by
  refine Met.ofW (cc := cX8_together) (maxL := 5) (ret := (some .int)) (by decide) rfl ?_
  intro p e s m args below meth c s₁ B hml hv
  obtain ⟨rfl, hP, hK, hD, hE⟩ := hv
  have hx := B.exec
  have hb := B.bytes
  have hr := B.returns
  have hts := atoms_spec (ws := wsX8_together) B.pre
  have hown : s.vm.findClass RX8 = some m.cls := findClass_of_methodNamed B.named
  have hlocks := B.notSynchronized
  have hl := lv_entry ([.ref (ad 0), .int pe, .int ot]) (n := 5) (Nat.le_of_ble_eq_true rfl)
  rw [lg_entry_eq]
  generalize (lg_sl ([.ref (ad 0), .int pe, .int ot]) ++ List.replicate (5 - (lg_sl ([.ref (ad 0), .int pe, .int ot])).length) Slot.unset).toArray = ls at hl ⊢
  have hl : lv_has ls 5 [(0, .ref (ad 0)), (1, .int pe), (2, .int ot)] := hl
  obtain ⟨Q, hQe⟩ : ∃ Q, Q = MQ below (vp_Si (fun r => r = (f_X8_together to st pe ot))) ([.ref (ad 0), .int pe, .int ot] : List Value).toArray s 0 0 (fun _ => False) := ⟨_, rfl⟩
  show W p l e (headSpec wsX8_together rm_X8_together).room s m ([.ref (ad 0), .int pe, .int ot] : List Value).toArray below meth c s.heap [] 0 0 (MQ below (vp_Si (fun r => r = (f_X8_together to st pe ot))) ([.ref (ad 0), .int pe, .int ot] : List Value).toArray s 0 0 (fun _ => False)) (F0 m 0 ls [])
  rw [← hQe]
  refine lv_aload_n hx hb dX8_together_0 rfl (lv_at hl 0 rfl) ?_
  refine lv_iload_n hx hb dX8_together_1 rfl (lv_at hl 1 rfl) ?_
  refine vp_callSi (va_Run.run (va_runV (As := [.int pe]) (rest := []) ⟨hx, hb, hml, hown, hts⟩ (c_X8_isPerson l D cI cL cZ ad A to st mt rd un kp rw se pe (by first | assumption | omega) (by first | assumption | omega)) (cwV 1 hts gX8_together_X8_isPerson rfl rfl rfl (by decide +kernel) ⟨Nat.le_of_ble_eq_true rfl, Nat.le_of_ble_eq_true rfl⟩) ⟨sR_fb, va_recv hK hP (ci := 8) (q0 := 0) rfl rfl, sR_at hP hK hD hE⟩ rfl rfl hl.1 rfl (lv_room (Nat.le_of_ble_eq_true rfl)) dX8_together_2 ⟨Nat.zero_le _, Nat.zero_le _⟩)) (fun r hr => ?_)
  subst hr
  refine lv_if_eq (tgt := 21) hx hb dX8_together_5 (by decide) (fun c_1 => ?_) (fun c_1 => ?_)
  · refine lv_bipush (v := (-2)) hx hb dX8_together_21 rfl ?_
    subst hQe
    have hf : (f_X8_together to st pe ot) = (-2 : Int32) := by rw [f_X8_together, if_pos c_1]
    exact W.iret (v := (-2 : Int32)) hx hb hr (fun t ht hW => ⟨(-2 : Int32), rfl, hf.symm, ht⟩) (fun _ h => by cases h) dX8_together_23
  · refine lv_aload_n hx hb dX8_together_8 rfl (lv_at hl 0 rfl) ?_
    refine lv_iload_n hx hb dX8_together_9 rfl (lv_at hl 2 rfl) ?_
    refine vp_callSi (va_Run.run (va_runV (As := [.int ot]) (rest := []) ⟨hx, hb, hml, hown, hts⟩ (c_X8_isPerson l D cI cL cZ ad A to st mt rd un kp rw se ot (by first | assumption | omega) (by first | assumption | omega)) (cwV 1 hts gX8_together_X8_isPerson rfl rfl rfl (by decide +kernel) ⟨Nat.le_of_ble_eq_true rfl, Nat.le_of_ble_eq_true rfl⟩) ⟨sR_fb, va_recv hK hP (ci := 8) (q0 := 0) rfl rfl, sR_at hP hK hD hE⟩ rfl rfl hl.1 rfl (lv_room (Nat.le_of_ble_eq_true rfl)) dX8_together_10 ⟨Nat.zero_le _, Nat.zero_le _⟩)) (fun r hr => ?_)
    subst hr
    refine lv_if_eq (tgt := 21) hx hb dX8_together_13 (by decide) (fun c_2 => ?_) (fun c_2 => ?_)
    · refine lv_bipush (v := (-2)) hx hb dX8_together_21 rfl ?_
      subst hQe
      have hf : (f_X8_together to st pe ot) = (-2 : Int32) := by rw [f_X8_together, if_neg c_1, if_pos c_2]
      exact W.iret (v := (-2 : Int32)) hx hb hr (fun t ht hW => ⟨(-2 : Int32), rfl, hf.symm, ht⟩) (fun _ h => by cases h) dX8_together_23
    · refine lv_iload_n hx hb dX8_together_16 rfl (lv_at hl 1 rfl) ?_
      refine lv_iload_n hx hb dX8_together_17 rfl (lv_at hl 2 rfl) ?_
      refine lv_icmp_ne (tgt := 24) hx hb dX8_together_18 (by decide) (fun c_3 => ?_) (fun c_3 => ?_)
      · have hpl : pe.toNatClampNeg < mN to := isP_lt hm6 c_1
        have hol : ot.toNatClampNeg < mN to := isP_lt hm6 c_2
        have hl : lv_has ls 5 [(0, .ref (ad 0)), (1, .int (nI pe.toNatClampNeg)), (2, .int ot)] := by have h9 := hl; rw [isP_nat c_1] at h9; exact h9
        have hl : lv_has ls 5 [(0, .ref (ad 0)), (1, .int (nI pe.toNatClampNeg)), (2, .int (nI ot.toNatClampNeg))] := by have h9 := hl; rw [isP_nat c_2] at h9; exact h9
        refine lv_iconst (v := nI 0) hx hb dX8_together_24 rfl ?_
        refine lv_istore_n (lv' := [(3, .int (nI 0)), (0, .ref (ad 0)), (1, .int (nI pe.toNatClampNeg)), (2, .int (nI ot.toNatClampNeg))]) hx hb dX8_together_25 rfl hl (by decide) rfl (fun ls hl => ?_)
        refine lv_iconst (v := nI 0) hx hb dX8_together_26 rfl ?_
        refine lv_istore (lv' := [(4, .int (nI 0)), (3, .int (nI 0)), (0, .ref (ad 0)), (1, .int (nI pe.toNatClampNeg)), (2, .int (nI ot.toNatClampNeg))]) hx hb dX8_together_27 hl (by decide) rfl (fun ls hl => ?_)
        obtain ⟨T_29_1, hT_29_1⟩ : ∃ z, z = (L_X8_together_29 to st pe ot 60 0 (nI 0)) := ⟨_, rfl⟩
        have hexit_29 : ∀ (ls : Array Slot), lv_has ls 5 [(3, .int T_29_1), (0, .ref (ad 0)), (1, .int (nI pe.toNatClampNeg)), (2, .int (nI ot.toNatClampNeg))] → W p l e (headSpec wsX8_together rm_X8_together).room s m ([.ref (ad 0), .int pe, .int ot] : List Value).toArray below meth c s.heap [] 0 0 Q (F0 m 70 ls []) := by
          intro ls hl
          refine lv_iload_n hx hb dX8_together_70 rfl (lv_at hl 0 rfl) ?_
          subst hQe
          have hf : (f_X8_together to st pe ot) = T_29_1 := by subst hT_29_1; rw [f_X8_together, if_neg c_1, if_neg c_2, if_neg c_3]
          exact W.iret (v := T_29_1) hx hb hr (fun t ht hW => ⟨T_29_1, rfl, hf.symm, ht⟩) (fun _ h => by cases h) dX8_together_71
        have loop_29 : ∀ (n_29 : Nat) (k_29 : Nat) (x3_29 : Int32), (k_29 + n_29 = 60) → L_X8_together_29 to st pe ot n_29 k_29 x3_29 = T_29_1 → ∀ (ls : Array Slot), lv_has ls 5 [(4, .int (nI k_29)), (3, .int x3_29), (0, .ref (ad 0)), (1, .int (nI pe.toNatClampNeg)), (2, .int (nI ot.toNatClampNeg))] → W p l e (headSpec wsX8_together rm_X8_together).room s m ([.ref (ad 0), .int pe, .int ot] : List Value).toArray below meth c s.heap [] 0 0 Q (F0 m 29 ls []) := by
          intro n_29
          induction n_29 with
          | zero =>
            intro k_29 x3_29 hk_29 hL_29 ls hl
            refine lv_iload hx hb dX8_together_29 (lv_at hl 0 rfl) ?_
            refine lv_bipush (v := nI 60) hx hb dX8_together_31 rfl ?_
            refine mv_icmp_ge (tgt := 70) hx hb dX8_together_33 (by decide) (by omega) (by decide) (fun c_8 => ?_) (fun c_8 => (by omega : False).elim)
            have e9 : T_29_1 = x3_29 := by rw [← hL_29, L_X8_together_29]
            have hq := hexit_29
            rw [e9] at hq
            exact hq ls  (lv_sub hl [1, 2, 3, 4] rfl)
          | succ n_29 ih_29 =>
            intro k_29 x3_29 hk_29 hL_29 ls hl
            refine lv_iload hx hb dX8_together_29 (lv_at hl 0 rfl) ?_
            refine lv_bipush (v := nI 60) hx hb dX8_together_31 rfl ?_
            refine mv_icmp_ge (tgt := 70) hx hb dX8_together_33 (by decide) (by omega) (by decide) (fun c_4 => (by omega : False).elim) (fun c_4 => ?_)
            refine lv_iload_n hx hb dX8_together_36 rfl (lv_at hl 1 rfl) ?_
            refine lv_aload_n hx hb dX8_together_37 rfl (lv_at hl 2 rfl) ?_
            refine lv_iload_n hx hb dX8_together_38 rfl (lv_at hl 3 rfl) ?_
            refine lv_iload hx hb dX8_together_39 (lv_at hl 0 rfl) ?_
            refine vp_callSi (va_Run.run (va_runV (As := [.int (nI pe.toNatClampNeg), .int (nI k_29)]) (rest := [.int x3_29]) ⟨hx, hb, hml, hown, hts⟩ (c_X8_standsIn l D cI cL cZ ad A to st mt rd un kp rw se pe.toNatClampNeg (nI k_29) (by first | assumption | omega)) (cwV 2 hts gX8_together_X8_standsIn rfl rfl rfl (by decide +kernel) ⟨Nat.le_of_ble_eq_true rfl, Nat.le_of_ble_eq_true rfl⟩) ⟨sR_fb, va_recv hK hP (ci := 8) (q0 := 0) rfl rfl, sR_at hP hK hD hE⟩ rfl rfl hl.1 rfl (lv_room (Nat.le_of_ble_eq_true rfl)) dX8_together_41 ⟨Nat.zero_le _, Nat.zero_le _⟩)) (fun r hr => ?_)
            subst hr
            refine mv_phi (v := (if (f_X8_standsIn to st pe.toNatClampNeg (nI k_29)) = 0 then nI 0 else (if (f_X8_standsIn to st ot.toNatClampNeg (nI k_29)) = 0 then nI 0 else nI 1))) (pcj := 62) (ls := ls) (rest' := [.int x3_29]) ?_ (fun J_5 => ?_)
            · refine lv_iadd hx hb dX8_together_62 ?_
              refine lv_istore_n (lv' := [(3, .int (x3_29 + (if (f_X8_standsIn to st pe.toNatClampNeg (nI k_29)) = 0 then nI 0 else (if (f_X8_standsIn to st ot.toNatClampNeg (nI k_29)) = 0 then nI 0 else nI 1)))), (4, .int (nI k_29)), (0, .ref (ad 0)), (1, .int (nI pe.toNatClampNeg)), (2, .int (nI ot.toNatClampNeg))]) hx hb dX8_together_63 rfl hl (by decide) rfl (fun ls hl => ?_)
              refine mv_iinc (y := k_29 + 1) (lv' := [(4, .int (nI (k_29 + 1))), (3, .int (x3_29 + (if (f_X8_standsIn to st pe.toNatClampNeg (nI k_29)) = 0 then nI 0 else (if (f_X8_standsIn to st ot.toNatClampNeg (nI k_29)) = 0 then nI 0 else nI 1)))), (0, .ref (ad 0)), (1, .int (nI pe.toNatClampNeg)), (2, .int (nI ot.toNatClampNeg))]) hx hb dX8_together_64 hl (k := 1) rfl (nI_p1 _) (by decide) rfl (fun ls hl => ?_)
              refine lv_goto (tgt := 29) hx hb dX8_together_67 (by decide) ?_
              exact ih_29 (k_29 + 1) (x3_29 + (if (f_X8_standsIn to st pe.toNatClampNeg (nI k_29)) = 0 then nI 0 else (if (f_X8_standsIn to st ot.toNatClampNeg (nI k_29)) = 0 then nI 0 else nI 1))) (by omega) (by have e9 := hL_29; rw [L_X8_together_29] at e9; exact e9) ls (lv_sub hl [0, 1, 2, 3, 4] rfl)
            · refine lv_if_eq (tgt := 61) hx hb dX8_together_44 (by decide) (fun c_6 => ?_) (fun c_6 => ?_)
              · refine lv_iconst (v := nI 0) hx hb dX8_together_61 rfl ?_
                exact J_5 _ (by rw [if_pos c_6])
              · refine lv_aload_n hx hb dX8_together_47 rfl (lv_at hl 2 rfl) ?_
                refine lv_iload_n hx hb dX8_together_48 rfl (lv_at hl 4 rfl) ?_
                refine lv_iload hx hb dX8_together_49 (lv_at hl 0 rfl) ?_
                refine vp_callSi (va_Run.run (va_runV (As := [.int (nI ot.toNatClampNeg), .int (nI k_29)]) (rest := [.int x3_29]) ⟨hx, hb, hml, hown, hts⟩ (c_X8_standsIn l D cI cL cZ ad A to st mt rd un kp rw se ot.toNatClampNeg (nI k_29) (by first | assumption | omega)) (cwV 2 hts gX8_together_X8_standsIn rfl rfl rfl (by decide +kernel) ⟨Nat.le_of_ble_eq_true rfl, Nat.le_of_ble_eq_true rfl⟩) ⟨sR_fb, va_recv hK hP (ci := 8) (q0 := 0) rfl rfl, sR_at hP hK hD hE⟩ rfl rfl hl.1 rfl (lv_room (Nat.le_of_ble_eq_true rfl)) dX8_together_51 ⟨Nat.zero_le _, Nat.zero_le _⟩)) (fun r hr => ?_)
                subst hr
                refine lv_if_eq (tgt := 61) hx hb dX8_together_54 (by decide) (fun c_7 => ?_) (fun c_7 => ?_)
                · refine lv_iconst (v := nI 0) hx hb dX8_together_61 rfl ?_
                  exact J_5 _ (by rw [if_neg c_6, if_pos c_7])
                · refine lv_iconst (v := nI 1) hx hb dX8_together_57 rfl ?_
                  refine lv_goto (tgt := 62) hx hb dX8_together_58 (by decide) ?_
                  exact J_5 _ (by rw [if_neg c_6, if_neg c_7])
        exact loop_29 60 0 (nI 0) (by omega) hT_29_1.symm ls (lv_sub hl [0, 1, 2, 3, 4] rfl)
      · refine lv_bipush (v := (-2)) hx hb dX8_together_21 rfl ?_
        subst hQe
        have hf : (f_X8_together to st pe ot) = (-2 : Int32) := by rw [f_X8_together, if_neg c_1, if_neg c_2, if_pos c_3]
        exact W.iret (v := (-2 : Int32)) hx hb hr (fun t ht hW => ⟨(-2 : Int32), rfl, hf.symm, ht⟩) (fun _ h => by cases h) dX8_together_23
def f_X8_seen (to : (Nat → Int32)) (se : MUn) (pe : Int32) (fi : Int32) : Int32 × MUn := (if (f_X8_isPerson to pe) = 0 then ((-2 : Int32), se) else (if (f_X8_in fi.toInt64 (0 : Int64) (99 : Int64)) = 0 then ((-3 : Int32), se) else (if se.2 = 6 then ((-5 : Int32), se) else (nI (se.2 + 1), ((upd (upd se.1 (2 * se.2) pe) ((2 * se.2) + 1) fi), (se.2 + 1))))))
abbrev rm_X8_seen : Room := { frames := 2, cells := 0, slots := 0, locals := 46 }
set_option maxHeartbeats 4000000 in
set_option maxRecDepth 100000 in
theorem c_X8_seen (l : Launch) (D : va_G) (cI cL cZ : ClassId) (ad : Nat → Nat) (A : Nat → Prop) (to : (Nat → Int32)) (st : (Nat → Int32)) (mt : MTx) (rd : (Nat → Int32)) (un : MUn) (kp : MKp) (rw : MKp) (se : MUn) (pe : Int32) (fi : Int32) (hm : to 0 = nI (mN to)) (hm6 : mN to ≤ 6) (hse : se.2 ≤ 6) : Met l yX8_seen wsX8_seen rm_X8_seen (va_Pc [.ref (ad 0), .int pe, .int fi] (sR D cI cL cZ A (mW cI cL cZ ad to st mt rd un kp rw se))) (va_Qi (fun (r : Int32) (u : MUn) => r = (f_X8_seen to se pe fi).1 ∧ u = (f_X8_seen to se pe fi).2) (fun (u : MUn) t => va_P D vwCl (mW cI cL cZ ad to st mt rd un kp rw u) t.heap) A) 0 0 A := by
  refine Met.ofW (cc := cX8_seen) (maxL := 3) (ret := (some .int)) (by decide) rfl ?_
  intro p e s m args below meth c s₁ B hml hv
  obtain ⟨rfl, hP, hK, hD, hE⟩ := hv
  have hx := B.exec
  have hb := B.bytes
  have hr := B.returns
  have hts := atoms_spec (ws := wsX8_seen) B.pre
  have hown : s.vm.findClass RX8 = some m.cls := findClass_of_methodNamed B.named
  have hlocks := B.notSynchronized
  have hS : va_S A s.heap s.heap [] := va_S.rf
  have hl := lv_entry ([.ref (ad 0), .int pe, .int fi]) (n := 3) (Nat.le_of_ble_eq_true rfl)
  rw [lg_entry_eq]
  generalize (lg_sl ([.ref (ad 0), .int pe, .int fi]) ++ List.replicate (3 - (lg_sl ([.ref (ad 0), .int pe, .int fi])).length) Slot.unset).toArray = ls at hl ⊢
  have hl : lv_has ls 3 [(0, .ref (ad 0)), (1, .int pe), (2, .int fi)] := hl
  refine lv_aload_n hx hb dX8_seen_0 rfl (lv_at hl 0 rfl) ?_
  refine lv_iload_n hx hb dX8_seen_1 rfl (lv_at hl 1 rfl) ?_
  refine vp_callSi (va_Run.run (va_runV (As := [.int pe]) (rest := []) ⟨hx, hb, hml, hown, hts⟩ (c_X8_isPerson l D cI cL cZ ad A to st mt rd un kp rw se pe (by first | assumption | omega) (by first | assumption | omega)) (cwV 1 hts gX8_seen_X8_isPerson rfl rfl rfl (by decide +kernel) ⟨Nat.le_of_ble_eq_true rfl, Nat.le_of_ble_eq_true rfl⟩) ⟨sR_fb, va_recv hK hP (ci := 8) (q0 := 0) rfl rfl, sR_at hP hK hD hE⟩ rfl rfl hl.1 rfl (lv_room (Nat.le_of_ble_eq_true rfl)) dX8_seen_2 ⟨Nat.zero_le _, Nat.zero_le _⟩)) (fun r hr => ?_)
  subst hr
  refine lv_if_ne (tgt := 11) hx hb dX8_seen_5 (by decide) (fun c_1 => ?_) (fun c_1 => ?_)
  · refine lv_iload_n hx hb dX8_seen_11 rfl (lv_at hl 2 rfl) ?_
    refine lv_i2l hx hb dX8_seen_12 rfl ?_
    refine lv_lconst (v := 0) hx hb dX8_seen_13 rfl ?_
    refine lv_ldc2 (v := (99)) hx hb hown (hts (.constantLong RX8 185 (99)) (by decide +kernel)) dX8_seen_14 ?_
    refine vp_callSi (va_Run.run (va_runS (As := [.long fi.toInt64, .long (0 : Int64), .long (99 : Int64)]) (rest := []) ⟨hx, hb, hml, hown, hts⟩ (c_X8_in l fi.toInt64 (0 : Int64) (99 : Int64) ) (va_cwS 3 hts gX8_seen_X8_in rfl rfl rfl (by decide +kernel) ⟨Nat.le_of_ble_eq_true rfl, Nat.le_of_ble_eq_true rfl⟩) ⟨pR_fb, pR_at⟩ rfl rfl hl.1 rfl (lv_room (Nat.le_of_ble_eq_true rfl)) dX8_seen_17 ⟨Nat.zero_le _, Nat.zero_le _⟩)) (fun r hr => ?_)
    subst hr
    refine lv_if_ne (tgt := 26) hx hb dX8_seen_20 (by decide) (fun c_2 => ?_) (fun c_2 => ?_)
    · refine lv_aload_n hx hb dX8_seen_26 rfl (lv_at hl 0 rfl) ?_
      refine va_get (D := D) (ci := 8) (v := .int (nI se.2)) (C := RX8) (T := TX8) (N := 18) hx hb hts (by decide +kernel) hown hK hP 0 rfl rfl 17 (by decide) (hts (.fieldLink RX8 121 "SummitTimeModel" "seenMany" "I") (by decide +kernel)) (fun _ h9 => h9) rfl dX8_seen_27 ?_
      refine lv_bipush (v := nI 6) hx hb dX8_seen_30 rfl ?_
      refine mv_icmp_ne (tgt := 38) hx hb dX8_seen_32 (by decide) (by omega) (by decide) (fun c_3 => ?_) (fun c_3 => ?_)
      · refine lv_aload_n hx hb dX8_seen_38 rfl (lv_at hl 0 rfl) ?_
        refine va_get (D := D) (ci := 8) (v := .ref (ad 10)) (C := RX8) (T := TX8) (N := 18) hx hb hts (by decide +kernel) hown hK hP 0 rfl rfl 16 (by decide) (hts (.fieldLink RX8 38 "SummitTimeModel" "seens" "[I") (by decide +kernel)) (fun _ h9 => h9) rfl dX8_seen_39 ?_
        refine lv_iconst (v := nI 2) hx hb dX8_seen_42 rfl ?_
        refine lv_aload_n hx hb dX8_seen_43 rfl (lv_at hl 0 rfl) ?_
        refine va_get (D := D) (ci := 8) (v := .int (nI se.2)) (C := RX8) (T := TX8) (N := 18) hx hb hts (by decide +kernel) hown hK hP 0 rfl rfl 17 (by decide) (hts (.fieldLink RX8 121 "SummitTimeModel" "seenMany" "I") (by decide +kernel)) (fun _ h9 => h9) rfl dX8_seen_44 ?_
        refine mv_imul hx hb dX8_seen_47 ?_
        refine lv_iload_n hx hb dX8_seen_48 rfl (lv_at hl 1 rfl) ?_
        refine mv_iast (f := se.1) hx hb hK hP hD hS 10 0 rfl rfl (by omega) (by decide) dX8_seen_49 (fun H locs hP hD hS => ?_)
        have hP : va_P D vwCl (mW cI cL cZ ad to st mt rd un kp rw ((upd se.1 (2 * se.2) pe), se.2)) H := hP
        have hD : va_D A (mW cI cL cZ ad to st mt rd un kp rw ((upd se.1 (2 * se.2) pe), se.2)) := hD
        refine lv_aload_n hx hb dX8_seen_50 rfl (lv_at hl 0 rfl) ?_
        refine va_get (D := D) (ci := 8) (v := .ref (ad 10)) (C := RX8) (T := TX8) (N := 18) hx hb hts (by decide +kernel) hown hK hP 0 rfl rfl 16 (by decide) (hts (.fieldLink RX8 38 "SummitTimeModel" "seens" "[I") (by decide +kernel)) (fun _ h9 => h9) rfl dX8_seen_51 ?_
        refine lv_iconst (v := nI 2) hx hb dX8_seen_54 rfl ?_
        refine lv_aload_n hx hb dX8_seen_55 rfl (lv_at hl 0 rfl) ?_
        refine va_get (D := D) (ci := 8) (v := .int (nI se.2)) (C := RX8) (T := TX8) (N := 18) hx hb hts (by decide +kernel) hown hK hP 0 rfl rfl 17 (by decide) (hts (.fieldLink RX8 121 "SummitTimeModel" "seenMany" "I") (by decide +kernel)) (fun _ h9 => h9) rfl dX8_seen_56 ?_
        refine mv_imul hx hb dX8_seen_59 ?_
        refine lv_iconst (v := nI 1) hx hb dX8_seen_60 rfl ?_
        refine mv_iadd hx hb dX8_seen_61 ?_
        refine lv_iload_n hx hb dX8_seen_62 rfl (lv_at hl 2 rfl) ?_
        refine mv_iast (f := (upd se.1 (2 * se.2) pe)) hx hb hK hP hD hS 10 0 rfl rfl (by omega) (by decide) dX8_seen_63 (fun H locs hP hD hS => ?_)
        have hP : va_P D vwCl (mW cI cL cZ ad to st mt rd un kp rw ((upd (upd se.1 (2 * se.2) pe) ((2 * se.2) + 1) fi), se.2)) H := hP
        have hD : va_D A (mW cI cL cZ ad to st mt rd un kp rw ((upd (upd se.1 (2 * se.2) pe) ((2 * se.2) + 1) fi), se.2)) := hD
        refine lv_aload_n hx hb dX8_seen_64 rfl (lv_at hl 0 rfl) ?_
        refine lv_dup hx hb dX8_seen_65 rfl ?_
        refine va_get (D := D) (ci := 8) (v := .int (nI se.2)) (C := RX8) (T := TX8) (N := 18) hx hb hts (by decide +kernel) hown hK hP 0 rfl rfl 17 (by decide) (hts (.fieldLink RX8 121 "SummitTimeModel" "seenMany" "I") (by decide +kernel)) (fun _ h9 => h9) rfl dX8_seen_66 ?_
        refine lv_iconst (v := nI 1) hx hb dX8_seen_69 rfl ?_
        refine mv_iadd hx hb dX8_seen_70 ?_
        refine va_put (D := D) (ci := 8) (v := .int (nI (se.2 + 1))) (ty := .int) (C := RX8) (T := TX8) (N := 18) hx hb hts (by decide +kernel) tyX8 tyX8_ok nmX8 hown hK hP hD hS 0 rfl rfl 17 (by decide) (hts (.fieldLink RX8 121 "SummitTimeModel" "seenMany" "I") (by decide +kernel)) (fun _ h9 => h9) rfl (by decide +kernel) rfl rfl (Nat.le_of_ble_eq_true rfl) dX8_seen_71 (fun H locs hP hD hS => ?_)
        have hP : va_P D vwCl (mW cI cL cZ ad to st mt rd un kp rw ((upd (upd se.1 (2 * se.2) pe) ((2 * se.2) + 1) fi), (se.2 + 1))) H := hP
        have hD : va_D A (mW cI cL cZ ad to st mt rd un kp rw ((upd (upd se.1 (2 * se.2) pe) ((2 * se.2) + 1) fi), (se.2 + 1))) := hD
        refine lv_aload_n hx hb dX8_seen_74 rfl (lv_at hl 0 rfl) ?_
        refine va_get (D := D) (ci := 8) (v := .int (nI (se.2 + 1))) (C := RX8) (T := TX8) (N := 18) hx hb hts (by decide +kernel) hown hK hP 0 rfl rfl 17 (by decide) (hts (.fieldLink RX8 121 "SummitTimeModel" "seenMany" "I") (by decide +kernel)) (fun _ h9 => h9) rfl dX8_seen_75 ?_
        have hf : (f_X8_seen to se pe fi) = (nI (se.2 + 1), ((upd (upd se.1 (2 * se.2) pe) ((2 * se.2) + 1) fi), (se.2 + 1))) := by rw [f_X8_seen, if_neg c_1, if_neg c_2, if_neg c_3]
        exact W.iret (v := nI (se.2 + 1)) hx hb hr (fun t ht hW => ⟨⟨nI (se.2 + 1), ((upd (upd se.1 (2 * se.2) pe) ((2 * se.2) + 1) fi), (se.2 + 1)), rfl, ⟨(congrArg Prod.fst hf).symm, (congrArg Prod.snd hf).symm⟩, va_Pt ht hP⟩, hS.F ht⟩) hS.2.2 dX8_seen_78
      · refine lv_bipush (v := (-5)) hx hb dX8_seen_35 rfl ?_
        have hf : (f_X8_seen to se pe fi) = ((-5 : Int32), se) := by rw [f_X8_seen, if_neg c_1, if_neg c_2, if_pos c_3]
        exact W.iret (v := (-5 : Int32)) hx hb hr (fun t ht hW => ⟨⟨(-5 : Int32), se, rfl, ⟨(congrArg Prod.fst hf).symm, (congrArg Prod.snd hf).symm⟩, va_Pt ht hP⟩, hS.F ht⟩) hS.2.2 dX8_seen_37
    · refine lv_bipush (v := (-3)) hx hb dX8_seen_23 rfl ?_
      have hf : (f_X8_seen to se pe fi) = ((-3 : Int32), se) := by rw [f_X8_seen, if_neg c_1, if_pos c_2]
      exact W.iret (v := (-3 : Int32)) hx hb hr (fun t ht hW => ⟨⟨(-3 : Int32), se, rfl, ⟨(congrArg Prod.fst hf).symm, (congrArg Prod.snd hf).symm⟩, va_Pt ht hP⟩, hS.F ht⟩) hS.2.2 dX8_seen_25
  · refine lv_bipush (v := (-2)) hx hb dX8_seen_8 rfl ?_
    have hf : (f_X8_seen to se pe fi) = ((-2 : Int32), se) := by rw [f_X8_seen, if_pos c_1]
    exact W.iret (v := (-2 : Int32)) hx hb hr (fun t ht hW => ⟨⟨(-2 : Int32), se, rfl, ⟨(congrArg Prod.fst hf).symm, (congrArg Prod.snd hf).symm⟩, va_Pt ht hP⟩, hS.F ht⟩) hS.2.2 dX8_seen_10
def f_X8_forget (se : MUn) : Int32 × MUn := (nI se.2, (se.1, 0))
abbrev rm_X8_forget : Room := { frames := 0, cells := 0, slots := 0, locals := 0 }
set_option maxHeartbeats 4000000 in
set_option maxRecDepth 100000 in
theorem c_X8_forget (l : Launch) (D : va_G) (cI cL cZ : ClassId) (ad : Nat → Nat) (A : Nat → Prop) (to : (Nat → Int32)) (st : (Nat → Int32)) (mt : MTx) (rd : (Nat → Int32)) (un : MUn) (kp : MKp) (rw : MKp) (se : MUn)   : Met l yX8_forget wsX8_forget rm_X8_forget (va_Pc [.ref (ad 0)] (sR D cI cL cZ A (mW cI cL cZ ad to st mt rd un kp rw se))) (va_Qi (fun (r : Int32) (u : MUn) => r = (f_X8_forget se).1 ∧ u = (f_X8_forget se).2) (fun (u : MUn) t => va_P D vwCl (mW cI cL cZ ad to st mt rd un kp rw u) t.heap) A) 0 0 A := by
  refine Met.ofW (cc := cX8_forget) (maxL := 2) (ret := (some .int)) (by decide) rfl ?_
  intro p e s m args below meth c s₁ B hml hv
  obtain ⟨rfl, hP, hK, hD, hE⟩ := hv
  have hx := B.exec
  have hb := B.bytes
  have hr := B.returns
  have hts := atoms_spec (ws := wsX8_forget) B.pre
  have hown : s.vm.findClass RX8 = some m.cls := findClass_of_methodNamed B.named
  have hlocks := B.notSynchronized
  have hS : va_S A s.heap s.heap [] := va_S.rf
  have hl := lv_entry ([.ref (ad 0)]) (n := 2) (Nat.le_of_ble_eq_true rfl)
  rw [lg_entry_eq]
  generalize (lg_sl ([.ref (ad 0)]) ++ List.replicate (2 - (lg_sl ([.ref (ad 0)])).length) Slot.unset).toArray = ls at hl ⊢
  have hl : lv_has ls 2 [(0, .ref (ad 0))] := hl
  refine lv_aload_n hx hb dX8_forget_0 rfl (lv_at hl 0 rfl) ?_
  refine va_get (D := D) (ci := 8) (v := .int (nI se.2)) (C := RX8) (T := TX8) (N := 18) hx hb hts (by decide +kernel) hown hK hP 0 rfl rfl 17 (by decide) (hts (.fieldLink RX8 121 "SummitTimeModel" "seenMany" "I") (by decide +kernel)) (fun _ h9 => h9) rfl dX8_forget_1 ?_
  refine lv_istore_n (lv' := [(1, .int (nI se.2)), (0, .ref (ad 0))]) hx hb dX8_forget_4 rfl hl (by decide) rfl (fun ls hl => ?_)
  refine lv_aload_n hx hb dX8_forget_5 rfl (lv_at hl 1 rfl) ?_
  refine lv_iconst (v := nI 0) hx hb dX8_forget_6 rfl ?_
  refine va_put (D := D) (ci := 8) (v := .int (nI 0)) (ty := .int) (C := RX8) (T := TX8) (N := 18) hx hb hts (by decide +kernel) tyX8 tyX8_ok nmX8 hown hK hP hD hS 0 rfl rfl 17 (by decide) (hts (.fieldLink RX8 121 "SummitTimeModel" "seenMany" "I") (by decide +kernel)) (fun _ h9 => h9) rfl (by decide +kernel) rfl rfl (Nat.le_of_ble_eq_true rfl) dX8_forget_7 (fun H locs hP hD hS => ?_)
  have hP : va_P D vwCl (mW cI cL cZ ad to st mt rd un kp rw (se.1, 0)) H := hP
  have hD : va_D A (mW cI cL cZ ad to st mt rd un kp rw (se.1, 0)) := hD
  refine lv_iload_n hx hb dX8_forget_10 rfl (lv_at hl 0 rfl) ?_
  have hf : (f_X8_forget se) = (nI se.2, (se.1, 0)) := by rw [f_X8_forget]
  exact W.iret (v := nI se.2) hx hb hr (fun t ht hW => ⟨⟨nI se.2, (se.1, 0), rfl, ⟨(congrArg Prod.fst hf).symm, (congrArg Prod.snd hf).symm⟩, va_Pt ht hP⟩, hS.F ht⟩) hS.2.2 dX8_forget_11
def L_X8_count_10 (to : (Nat → Int32)) (st : (Nat → Int32)) : Nat → Nat → Int32 → Int32 → Int32 → Int32 × Int32 × Int32
  | 0, _, x4_10, x3_10, x2_10 => (x4_10, x3_10, x2_10)
  | n_10 + 1, k_10, x4_10, x3_10, x2_10 => (L_X8_count_10 to st n_10 (k_10 + 1) (x4_10 ||| ((st (66 + k_10)) <<< ((nI k_10) &&& 31))) (x3_10 + (f_X8_fineOf to st k_10)) (x2_10 ||| (if (st (60 + k_10)) < 0 then nI 0 else ((nI 1) <<< ((nI k_10) &&& 31)))))
def L_X8_count_87 (to : (Nat → Int32)) (st : (Nat → Int32)) : Nat → Nat → Int32 → Int32 → Int32 × Int32
  | 0, _, x6_87, x5_87 => (x6_87, x5_87)
  | n_87 + 1, k_87, x6_87, x5_87 => (L_X8_count_87 to st n_87 (k_87 + 1) (x6_87 + (to (85 + k_87))) (x5_87 + (if (st k_87) < 0 then nI 0 else nI 1)))
def f_X8_count (to : (Nat → Int32)) (st : (Nat → Int32)) (mt : MTx) (un : MUn) (se : MUn) (wh : Int32) : Int32 := (if wh = nI 0 then nI (mN to) else (if wh = nI 1 then (st 72) else (if wh = nI 2 then (L_X8_count_10 to st (mN to) 0 (nI 0) (nI 0) (nI 0)).2.2 else (if wh = nI 3 then (L_X8_count_10 to st (mN to) 0 (nI 0) (nI 0) (nI 0)).2.1 else (if wh = nI 4 then (L_X8_count_87 to st 60 0 (nI 0) (nI 0)).2 else (if wh = nI 5 then (L_X8_count_87 to st 60 0 (nI 0) (nI 0)).1 else (if wh = nI 6 then (L_X8_count_10 to st (mN to) 0 (nI 0) (nI 0) (nI 0)).1 else (if wh = nI 7 then nI se.2 else (if wh = nI 8 then nI un.2 else (if wh = nI 9 then nI mt.2.1 else (-3 : Int32)))))))))))
abbrev rm_X8_count : Room := { frames := 5, cells := 0, slots := 0, locals := 113 }
set_option maxHeartbeats 4000000 in
set_option maxRecDepth 100000 in
theorem c_X8_count (l : Launch) (D : va_G) (cI cL cZ : ClassId) (ad : Nat → Nat) (A : Nat → Prop) (to : (Nat → Int32)) (st : (Nat → Int32)) (mt : MTx) (rd : (Nat → Int32)) (un : MUn) (kp : MKp) (rw : MKp) (se : MUn) (wh : Int32) (hm : to 0 = nI (mN to)) (hm6 : mN to ≤ 6) (hso : ∀ j, j < 60 → (st j).toNatClampNeg < 6) : Met l yX8_count wsX8_count rm_X8_count (va_Pc [.ref (ad 0), .int wh] (sR D cI cL cZ A (mW cI cL cZ ad to st mt rd un kp rw se))) (vp_Si (fun r => r = (f_X8_count to st mt un se wh))) 0 0 (fun _ => False) := by
  refine Met.ofW (cc := cX8_count) (maxL := 8) (ret := (some .int)) (by decide) rfl ?_
  intro p e s m args below meth c s₁ B hml hv
  obtain ⟨rfl, hP, hK, hD, hE⟩ := hv
  have hx := B.exec
  have hb := B.bytes
  have hr := B.returns
  have hts := atoms_spec (ws := wsX8_count) B.pre
  have hown : s.vm.findClass RX8 = some m.cls := findClass_of_methodNamed B.named
  have hlocks := B.notSynchronized
  have hl := lv_entry ([.ref (ad 0), .int wh]) (n := 8) (Nat.le_of_ble_eq_true rfl)
  rw [lg_entry_eq]
  generalize (lg_sl ([.ref (ad 0), .int wh]) ++ List.replicate (8 - (lg_sl ([.ref (ad 0), .int wh])).length) Slot.unset).toArray = ls at hl ⊢
  have hl : lv_has ls 8 [(0, .ref (ad 0)), (1, .int wh)] := hl
  obtain ⟨Q, hQe⟩ : ∃ Q, Q = MQ below (vp_Si (fun r => r = (f_X8_count to st mt un se wh))) ([.ref (ad 0), .int wh] : List Value).toArray s 0 0 (fun _ => False) := ⟨_, rfl⟩
  show W p l e (headSpec wsX8_count rm_X8_count).room s m ([.ref (ad 0), .int wh] : List Value).toArray below meth c s.heap [] 0 0 (MQ below (vp_Si (fun r => r = (f_X8_count to st mt un se wh))) ([.ref (ad 0), .int wh] : List Value).toArray s 0 0 (fun _ => False)) (F0 m 0 ls [])
  rw [← hQe]
  refine lv_iconst (v := nI 0) hx hb dX8_count_0 rfl ?_
  refine lv_istore_n (lv' := [(2, .int (nI 0)), (0, .ref (ad 0)), (1, .int wh)]) hx hb dX8_count_1 rfl hl (by decide) rfl (fun ls hl => ?_)
  refine lv_iconst (v := nI 0) hx hb dX8_count_2 rfl ?_
  refine lv_istore_n (lv' := [(3, .int (nI 0)), (2, .int (nI 0)), (0, .ref (ad 0)), (1, .int wh)]) hx hb dX8_count_3 rfl hl (by decide) rfl (fun ls hl => ?_)
  refine lv_iconst (v := nI 0) hx hb dX8_count_4 rfl ?_
  refine lv_istore (lv' := [(4, .int (nI 0)), (3, .int (nI 0)), (2, .int (nI 0)), (0, .ref (ad 0)), (1, .int wh)]) hx hb dX8_count_5 hl (by decide) rfl (fun ls hl => ?_)
  refine lv_iconst (v := nI 0) hx hb dX8_count_7 rfl ?_
  refine lv_istore (lv' := [(5, .int (nI 0)), (4, .int (nI 0)), (3, .int (nI 0)), (2, .int (nI 0)), (0, .ref (ad 0)), (1, .int wh)]) hx hb dX8_count_8 hl (by decide) rfl (fun ls hl => ?_)
  obtain ⟨T_10_1, hT_10_1⟩ : ∃ z, z = (L_X8_count_10 to st (mN to) 0 (nI 0) (nI 0) (nI 0)) := ⟨_, rfl⟩
  have hexit_10 : ∀ (ls : Array Slot), lv_has ls 8 [(4, .int T_10_1.1), (3, .int T_10_1.2.1), (2, .int T_10_1.2.2), (0, .ref (ad 0)), (1, .int wh)] → W p l e (headSpec wsX8_count rm_X8_count).room s m ([.ref (ad 0), .int wh] : List Value).toArray below meth c s.heap [] 0 0 Q (F0 m 78 ls []) := by
    intro ls hl
    refine lv_iconst (v := nI 0) hx hb dX8_count_78 rfl ?_
    refine lv_istore (lv' := [(5, .int (nI 0)), (4, .int T_10_1.1), (3, .int T_10_1.2.1), (2, .int T_10_1.2.2), (0, .ref (ad 0)), (1, .int wh)]) hx hb dX8_count_79 hl (by decide) rfl (fun ls hl => ?_)
    refine lv_iconst (v := nI 0) hx hb dX8_count_81 rfl ?_
    refine lv_istore (lv' := [(6, .int (nI 0)), (5, .int (nI 0)), (4, .int T_10_1.1), (3, .int T_10_1.2.1), (2, .int T_10_1.2.2), (0, .ref (ad 0)), (1, .int wh)]) hx hb dX8_count_82 hl (by decide) rfl (fun ls hl => ?_)
    refine lv_iconst (v := nI 0) hx hb dX8_count_84 rfl ?_
    refine lv_istore (lv' := [(7, .int (nI 0)), (6, .int (nI 0)), (5, .int (nI 0)), (4, .int T_10_1.1), (3, .int T_10_1.2.1), (2, .int T_10_1.2.2), (0, .ref (ad 0)), (1, .int wh)]) hx hb dX8_count_85 hl (by decide) rfl (fun ls hl => ?_)
    obtain ⟨T_87_2, hT_87_2⟩ : ∃ z, z = (L_X8_count_87 to st 60 0 (nI 0) (nI 0)) := ⟨_, rfl⟩
    have hexit_87 : ∀ (ls : Array Slot), lv_has ls 8 [(6, .int T_87_2.1), (5, .int T_87_2.2), (4, .int T_10_1.1), (3, .int T_10_1.2.1), (2, .int T_10_1.2.2), (0, .ref (ad 0)), (1, .int wh)] → W p l e (headSpec wsX8_count rm_X8_count).room s m ([.ref (ad 0), .int wh] : List Value).toArray below meth c s.heap [] 0 0 Q (F0 m 135 ls []) := by
      intro ls hl
      refine lv_iload_n hx hb dX8_count_135 rfl (lv_at hl 6 rfl) ?_
      by_cases c_9 : wh = nI 0
      · refine lv_tableIn (off := 56) (tgt := 192) hx hb dX8_count_136 (by rw [c_9]; decide) (by rw [c_9]; decide) (by rw [c_9]; decide) (by decide) ?_
        refine lv_aload_n hx hb dX8_count_192 rfl (lv_at hl 5 rfl) ?_
        refine va_get (D := D) (ci := 8) (v := .ref (ad 1)) (C := RX8) (T := TX8) (N := 18) hx hb hts (by decide +kernel) hown hK hP 0 rfl rfl 0 (by decide) (hts (.fieldLink RX8 7 "SummitTimeModel" "told" "[I") (by decide +kernel)) (fun _ h9 => h9) rfl dX8_count_193 ?_
        refine lv_iconst (v := nI 0) hx hb dX8_count_196 rfl ?_
        refine mv_iald (f := to) hx hb hK hP 1 0 rfl rfl (by decide) (by decide) dX8_count_197 ?_
        refine mv_top (y := nI (mN to)) hm ?_
        subst hQe
        have hf : (f_X8_count to st mt un se wh) = nI (mN to) := by subst hT_87_2; subst hT_10_1; rw [f_X8_count, if_pos c_9]
        exact W.iret (v := nI (mN to)) hx hb hr (fun t ht hW => ⟨nI (mN to), rfl, hf.symm, ht⟩) (fun _ h => by cases h) dX8_count_198
      · by_cases c_10 : wh = nI 1
        · refine lv_tableIn (off := 63) (tgt := 199) hx hb dX8_count_136 (by rw [c_10]; decide) (by rw [c_10]; decide) (by rw [c_10]; decide) (by decide) ?_
          refine lv_aload_n hx hb dX8_count_199 rfl (lv_at hl 5 rfl) ?_
          refine va_get (D := D) (ci := 8) (v := .ref (ad 2)) (C := RX8) (T := TX8) (N := 18) hx hb hts (by decide +kernel) hown hK hP 0 rfl rfl 1 (by decide) (hts (.fieldLink RX8 13 "SummitTimeModel" "st" "[I") (by decide +kernel)) (fun _ h9 => h9) rfl dX8_count_200 ?_
          refine lv_bipush (v := nI 72) hx hb dX8_count_203 rfl ?_
          refine mv_iald (f := st) hx hb hK hP 2 0 rfl rfl (by decide) (by decide) dX8_count_205 ?_
          subst hQe
          have hf : (f_X8_count to st mt un se wh) = (st 72) := by subst hT_87_2; subst hT_10_1; rw [f_X8_count, if_neg c_9, if_pos c_10]
          exact W.iret (v := (st 72)) hx hb hr (fun t ht hW => ⟨(st 72), rfl, hf.symm, ht⟩) (fun _ h => by cases h) dX8_count_206
        · by_cases c_11 : wh = nI 2
          · refine lv_tableIn (off := 71) (tgt := 207) hx hb dX8_count_136 (by rw [c_11]; decide) (by rw [c_11]; decide) (by rw [c_11]; decide) (by decide) ?_
            refine lv_iload_n hx hb dX8_count_207 rfl (lv_at hl 4 rfl) ?_
            subst hQe
            have hf : (f_X8_count to st mt un se wh) = T_10_1.2.2 := by subst hT_87_2; subst hT_10_1; rw [f_X8_count, if_neg c_9, if_neg c_10, if_pos c_11]
            exact W.iret (v := T_10_1.2.2) hx hb hr (fun t ht hW => ⟨T_10_1.2.2, rfl, hf.symm, ht⟩) (fun _ h => by cases h) dX8_count_208
          · by_cases c_12 : wh = nI 3
            · refine lv_tableIn (off := 73) (tgt := 209) hx hb dX8_count_136 (by rw [c_12]; decide) (by rw [c_12]; decide) (by rw [c_12]; decide) (by decide) ?_
              refine lv_iload_n hx hb dX8_count_209 rfl (lv_at hl 3 rfl) ?_
              subst hQe
              have hf : (f_X8_count to st mt un se wh) = T_10_1.2.1 := by subst hT_87_2; subst hT_10_1; rw [f_X8_count, if_neg c_9, if_neg c_10, if_neg c_11, if_pos c_12]
              exact W.iret (v := T_10_1.2.1) hx hb hr (fun t ht hW => ⟨T_10_1.2.1, rfl, hf.symm, ht⟩) (fun _ h => by cases h) dX8_count_210
            · by_cases c_13 : wh = nI 4
              · refine lv_tableIn (off := 75) (tgt := 211) hx hb dX8_count_136 (by rw [c_13]; decide) (by rw [c_13]; decide) (by rw [c_13]; decide) (by decide) ?_
                refine lv_iload hx hb dX8_count_211 (lv_at hl 1 rfl) ?_
                subst hQe
                have hf : (f_X8_count to st mt un se wh) = T_87_2.2 := by subst hT_87_2; subst hT_10_1; rw [f_X8_count, if_neg c_9, if_neg c_10, if_neg c_11, if_neg c_12, if_pos c_13]
                exact W.iret (v := T_87_2.2) hx hb hr (fun t ht hW => ⟨T_87_2.2, rfl, hf.symm, ht⟩) (fun _ h => by cases h) dX8_count_213
              · by_cases c_14 : wh = nI 5
                · refine lv_tableIn (off := 78) (tgt := 214) hx hb dX8_count_136 (by rw [c_14]; decide) (by rw [c_14]; decide) (by rw [c_14]; decide) (by decide) ?_
                  refine lv_iload hx hb dX8_count_214 (lv_at hl 0 rfl) ?_
                  subst hQe
                  have hf : (f_X8_count to st mt un se wh) = T_87_2.1 := by subst hT_87_2; subst hT_10_1; rw [f_X8_count, if_neg c_9, if_neg c_10, if_neg c_11, if_neg c_12, if_neg c_13, if_pos c_14]
                  exact W.iret (v := T_87_2.1) hx hb hr (fun t ht hW => ⟨T_87_2.1, rfl, hf.symm, ht⟩) (fun _ h => by cases h) dX8_count_216
                · by_cases c_15 : wh = nI 6
                  · refine lv_tableIn (off := 81) (tgt := 217) hx hb dX8_count_136 (by rw [c_15]; decide) (by rw [c_15]; decide) (by rw [c_15]; decide) (by decide) ?_
                    refine lv_iload hx hb dX8_count_217 (lv_at hl 2 rfl) ?_
                    subst hQe
                    have hf : (f_X8_count to st mt un se wh) = T_10_1.1 := by subst hT_87_2; subst hT_10_1; rw [f_X8_count, if_neg c_9, if_neg c_10, if_neg c_11, if_neg c_12, if_neg c_13, if_neg c_14, if_pos c_15]
                    exact W.iret (v := T_10_1.1) hx hb hr (fun t ht hW => ⟨T_10_1.1, rfl, hf.symm, ht⟩) (fun _ h => by cases h) dX8_count_219
                  · by_cases c_16 : wh = nI 7
                    · refine lv_tableIn (off := 84) (tgt := 220) hx hb dX8_count_136 (by rw [c_16]; decide) (by rw [c_16]; decide) (by rw [c_16]; decide) (by decide) ?_
                      refine lv_aload_n hx hb dX8_count_220 rfl (lv_at hl 5 rfl) ?_
                      refine va_get (D := D) (ci := 8) (v := .int (nI se.2)) (C := RX8) (T := TX8) (N := 18) hx hb hts (by decide +kernel) hown hK hP 0 rfl rfl 17 (by decide) (hts (.fieldLink RX8 121 "SummitTimeModel" "seenMany" "I") (by decide +kernel)) (fun _ h9 => h9) rfl dX8_count_221 ?_
                      subst hQe
                      have hf : (f_X8_count to st mt un se wh) = nI se.2 := by subst hT_87_2; subst hT_10_1; rw [f_X8_count, if_neg c_9, if_neg c_10, if_neg c_11, if_neg c_12, if_neg c_13, if_neg c_14, if_neg c_15, if_pos c_16]
                      exact W.iret (v := nI se.2) hx hb hr (fun t ht hW => ⟨nI se.2, rfl, hf.symm, ht⟩) (fun _ h => by cases h) dX8_count_224
                    · by_cases c_17 : wh = nI 8
                      · refine lv_tableIn (off := 89) (tgt := 225) hx hb dX8_count_136 (by rw [c_17]; decide) (by rw [c_17]; decide) (by rw [c_17]; decide) (by decide) ?_
                        refine lv_aload_n hx hb dX8_count_225 rfl (lv_at hl 5 rfl) ?_
                        refine va_get (D := D) (ci := 8) (v := .int (nI un.2)) (C := RX8) (T := TX8) (N := 18) hx hb hts (by decide +kernel) hown hK hP 0 rfl rfl 11 (by decide) (hts (.fieldLink RX8 124 "SummitTimeModel" "undoMany" "I") (by decide +kernel)) (fun _ h9 => h9) rfl dX8_count_226 ?_
                        subst hQe
                        have hf : (f_X8_count to st mt un se wh) = nI un.2 := by subst hT_87_2; subst hT_10_1; rw [f_X8_count, if_neg c_9, if_neg c_10, if_neg c_11, if_neg c_12, if_neg c_13, if_neg c_14, if_neg c_15, if_neg c_16, if_pos c_17]
                        exact W.iret (v := nI un.2) hx hb hr (fun t ht hW => ⟨nI un.2, rfl, hf.symm, ht⟩) (fun _ h => by cases h) dX8_count_229
                      · by_cases c_18 : wh = nI 9
                        · refine lv_tableIn (off := 94) (tgt := 230) hx hb dX8_count_136 (by rw [c_18]; decide) (by rw [c_18]; decide) (by rw [c_18]; decide) (by decide) ?_
                          refine lv_aload_n hx hb dX8_count_230 rfl (lv_at hl 5 rfl) ?_
                          refine va_get (D := D) (ci := 8) (v := .int (nI mt.2.1)) (C := RX8) (T := TX8) (N := 18) hx hb hts (by decide +kernel) hown hK hP 0 rfl rfl 3 (by decide) (hts (.fieldLink RX8 50 "SummitTimeModel" "letters" "I") (by decide +kernel)) (fun _ h9 => h9) rfl dX8_count_231 ?_
                          subst hQe
                          have hf : (f_X8_count to st mt un se wh) = nI mt.2.1 := by subst hT_87_2; subst hT_10_1; rw [f_X8_count, if_neg c_9, if_neg c_10, if_neg c_11, if_neg c_12, if_neg c_13, if_neg c_14, if_neg c_15, if_neg c_16, if_neg c_17, if_pos c_18]
                          exact W.iret (v := nI mt.2.1) hx hb hr (fun t ht hW => ⟨nI mt.2.1, rfl, hf.symm, ht⟩) (fun _ h => by cases h) dX8_count_234
                        · have w_19 : wh.toInt < 0 ∨ 9 < wh.toInt := by
                            have := lv_neT c_9 (show (nI 0 : Int32).toInt = 0 by decide)
                            have := lv_neT c_10 (show (nI 1 : Int32).toInt = 1 by decide)
                            have := lv_neT c_11 (show (nI 2 : Int32).toInt = 2 by decide)
                            have := lv_neT c_12 (show (nI 3 : Int32).toInt = 3 by decide)
                            have := lv_neT c_13 (show (nI 4 : Int32).toInt = 4 by decide)
                            have := lv_neT c_14 (show (nI 5 : Int32).toInt = 5 by decide)
                            have := lv_neT c_15 (show (nI 6 : Int32).toInt = 6 by decide)
                            have := lv_neT c_16 (show (nI 7 : Int32).toInt = 7 by decide)
                            have := lv_neT c_17 (show (nI 8 : Int32).toInt = 8 by decide)
                            have := lv_neT c_18 (show (nI 9 : Int32).toInt = 9 by decide)
                            omega
                          refine lv_tableOut (tgt := 235) hx hb dX8_count_136 w_19 (by decide) ?_
                          refine lv_bipush (v := (-3)) hx hb dX8_count_235 rfl ?_
                          subst hQe
                          have hf : (f_X8_count to st mt un se wh) = (-3 : Int32) := by subst hT_87_2; subst hT_10_1; rw [f_X8_count, if_neg c_9, if_neg c_10, if_neg c_11, if_neg c_12, if_neg c_13, if_neg c_14, if_neg c_15, if_neg c_16, if_neg c_17, if_neg c_18]
                          exact W.iret (v := (-3 : Int32)) hx hb hr (fun t ht hW => ⟨(-3 : Int32), rfl, hf.symm, ht⟩) (fun _ h => by cases h) dX8_count_237
    have loop_87 : ∀ (n_87 : Nat) (k_87 : Nat) (x6_87 : Int32) (x5_87 : Int32), (k_87 + n_87 = 60) → L_X8_count_87 to st n_87 k_87 x6_87 x5_87 = T_87_2 → ∀ (ls : Array Slot), lv_has ls 8 [(7, .int (nI k_87)), (6, .int x6_87), (5, .int x5_87), (4, .int T_10_1.1), (3, .int T_10_1.2.1), (2, .int T_10_1.2.2), (0, .ref (ad 0)), (1, .int wh)] → W p l e (headSpec wsX8_count rm_X8_count).room s m ([.ref (ad 0), .int wh] : List Value).toArray below meth c s.heap [] 0 0 Q (F0 m 87 ls []) := by
      intro n_87
      induction n_87 with
      | zero =>
        intro k_87 x6_87 x5_87 hk_87 hL_87 ls hl
        refine lv_iload hx hb dX8_count_87 (lv_at hl 0 rfl) ?_
        refine lv_bipush (v := nI 60) hx hb dX8_count_89 rfl ?_
        refine mv_icmp_ge (tgt := 135) hx hb dX8_count_91 (by decide) (by omega) (by decide) (fun c_8 => ?_) (fun c_8 => (by omega : False).elim)
        have e9 : T_87_2 = (x6_87, x5_87) := by rw [← hL_87, L_X8_count_87]
        have hq := hexit_87
        rw [e9] at hq
        exact hq ls  (lv_sub hl [1, 2, 3, 4, 5, 6, 7] rfl)
      | succ n_87 ih_87 =>
        intro k_87 x6_87 x5_87 hk_87 hL_87 ls hl
        refine lv_iload hx hb dX8_count_87 (lv_at hl 0 rfl) ?_
        refine lv_bipush (v := nI 60) hx hb dX8_count_89 rfl ?_
        refine mv_icmp_ge (tgt := 135) hx hb dX8_count_91 (by decide) (by omega) (by decide) (fun c_5 => (by omega : False).elim) (fun c_5 => ?_)
        refine lv_iload hx hb dX8_count_94 (lv_at hl 2 rfl) ?_
        refine lv_aload_n hx hb dX8_count_96 rfl (lv_at hl 6 rfl) ?_
        refine va_get (D := D) (ci := 8) (v := .ref (ad 2)) (C := RX8) (T := TX8) (N := 18) hx hb hts (by decide +kernel) hown hK hP 0 rfl rfl 1 (by decide) (hts (.fieldLink RX8 13 "SummitTimeModel" "st" "[I") (by decide +kernel)) (fun _ h9 => h9) rfl dX8_count_97 ?_
        refine lv_iload hx hb dX8_count_100 (lv_at hl 0 rfl) ?_
        refine mv_iald (f := st) hx hb hK hP 2 0 rfl rfl (by omega) (by decide) dX8_count_102 ?_
        refine mv_phi (v := (if (st k_87) < 0 then nI 0 else nI 1)) (pcj := 111) (ls := ls) (rest' := [.int x5_87]) ?_ (fun J_6 => ?_)
        · refine lv_iadd hx hb dX8_count_111 ?_
          refine lv_istore (lv' := [(5, .int (x5_87 + (if (st k_87) < 0 then nI 0 else nI 1))), (7, .int (nI k_87)), (6, .int x6_87), (4, .int T_10_1.1), (3, .int T_10_1.2.1), (2, .int T_10_1.2.2), (0, .ref (ad 0)), (1, .int wh)]) hx hb dX8_count_112 hl (by decide) rfl (fun ls hl => ?_)
          refine lv_iload hx hb dX8_count_114 (lv_at hl 2 rfl) ?_
          refine lv_aload_n hx hb dX8_count_116 rfl (lv_at hl 6 rfl) ?_
          refine va_get (D := D) (ci := 8) (v := .ref (ad 1)) (C := RX8) (T := TX8) (N := 18) hx hb hts (by decide +kernel) hown hK hP 0 rfl rfl 0 (by decide) (hts (.fieldLink RX8 7 "SummitTimeModel" "told" "[I") (by decide +kernel)) (fun _ h9 => h9) rfl dX8_count_117 ?_
          refine lv_bipush (v := nI 85) hx hb dX8_count_120 rfl ?_
          refine lv_iload hx hb dX8_count_122 (lv_at hl 1 rfl) ?_
          refine mv_iadd hx hb dX8_count_124 ?_
          refine mv_iald (f := to) hx hb hK hP 1 0 rfl rfl (by omega) (by decide) dX8_count_125 ?_
          refine lv_iadd hx hb dX8_count_126 ?_
          refine lv_istore (lv' := [(6, .int (x6_87 + (to (85 + k_87)))), (5, .int (x5_87 + (if (st k_87) < 0 then nI 0 else nI 1))), (7, .int (nI k_87)), (4, .int T_10_1.1), (3, .int T_10_1.2.1), (2, .int T_10_1.2.2), (0, .ref (ad 0)), (1, .int wh)]) hx hb dX8_count_127 hl (by decide) rfl (fun ls hl => ?_)
          refine mv_iinc (y := k_87 + 1) (lv' := [(7, .int (nI (k_87 + 1))), (6, .int (x6_87 + (to (85 + k_87)))), (5, .int (x5_87 + (if (st k_87) < 0 then nI 0 else nI 1))), (4, .int T_10_1.1), (3, .int T_10_1.2.1), (2, .int T_10_1.2.2), (0, .ref (ad 0)), (1, .int wh)]) hx hb dX8_count_129 hl (k := 2) rfl (nI_p1 _) (by decide) rfl (fun ls hl => ?_)
          refine lv_goto (tgt := 87) hx hb dX8_count_132 (by decide) ?_
          exact ih_87 (k_87 + 1) (x6_87 + (to (85 + k_87))) (x5_87 + (if (st k_87) < 0 then nI 0 else nI 1)) (by omega) (by have e9 := hL_87; rw [L_X8_count_87] at e9; exact e9) ls (lv_sub hl [0, 1, 2, 3, 4, 5, 6, 7] rfl)
        · refine lv_if_lt (tgt := 110) hx hb dX8_count_103 (by decide) (fun c_7 => ?_) (fun c_7 => ?_)
          · refine lv_iconst (v := nI 0) hx hb dX8_count_110 rfl ?_
            exact J_6 _ (by rw [if_pos c_7])
          · refine lv_iconst (v := nI 1) hx hb dX8_count_106 rfl ?_
            refine lv_goto (tgt := 111) hx hb dX8_count_107 (by decide) ?_
            exact J_6 _ (by rw [if_neg c_7])
    exact loop_87 60 0 (nI 0) (nI 0) (by omega) hT_87_2.symm ls (lv_sub hl [0, 1, 2, 3, 4, 5, 6, 7] rfl)
  have loop_10 : ∀ (n_10 : Nat) (k_10 : Nat) (x4_10 : Int32) (x3_10 : Int32) (x2_10 : Int32), (k_10 + n_10 = mN to) → L_X8_count_10 to st n_10 k_10 x4_10 x3_10 x2_10 = T_10_1 → ∀ (ls : Array Slot), lv_has ls 8 [(5, .int (nI k_10)), (4, .int x4_10), (3, .int x3_10), (2, .int x2_10), (0, .ref (ad 0)), (1, .int wh)] → W p l e (headSpec wsX8_count rm_X8_count).room s m ([.ref (ad 0), .int wh] : List Value).toArray below meth c s.heap [] 0 0 Q (F0 m 10 ls []) := by
    intro n_10
    induction n_10 with
    | zero =>
      intro k_10 x4_10 x3_10 x2_10 hk_10 hL_10 ls hl
      refine lv_iload hx hb dX8_count_10 (lv_at hl 0 rfl) ?_
      refine lv_aload_n hx hb dX8_count_12 rfl (lv_at hl 4 rfl) ?_
      refine va_get (D := D) (ci := 8) (v := .ref (ad 1)) (C := RX8) (T := TX8) (N := 18) hx hb hts (by decide +kernel) hown hK hP 0 rfl rfl 0 (by decide) (hts (.fieldLink RX8 7 "SummitTimeModel" "told" "[I") (by decide +kernel)) (fun _ h9 => h9) rfl dX8_count_13 ?_
      refine lv_iconst (v := nI 0) hx hb dX8_count_16 rfl ?_
      refine mv_iald (f := to) hx hb hK hP 1 0 rfl rfl (by decide) (by decide) dX8_count_17 ?_
      refine mv_top (y := nI (mN to)) hm ?_
      refine mv_icmp_ge (tgt := 78) hx hb dX8_count_18 (by decide) (by omega) (by omega) (fun c_4 => ?_) (fun c_4 => (by omega : False).elim)
      have e9 : T_10_1 = (x4_10, x3_10, x2_10) := by rw [← hL_10, L_X8_count_10]
      have hq := hexit_10
      rw [e9] at hq
      exact hq ls  (lv_sub hl [1, 2, 3, 4, 5] rfl)
    | succ n_10 ih_10 =>
      intro k_10 x4_10 x3_10 x2_10 hk_10 hL_10 ls hl
      refine lv_iload hx hb dX8_count_10 (lv_at hl 0 rfl) ?_
      refine lv_aload_n hx hb dX8_count_12 rfl (lv_at hl 4 rfl) ?_
      refine va_get (D := D) (ci := 8) (v := .ref (ad 1)) (C := RX8) (T := TX8) (N := 18) hx hb hts (by decide +kernel) hown hK hP 0 rfl rfl 0 (by decide) (hts (.fieldLink RX8 7 "SummitTimeModel" "told" "[I") (by decide +kernel)) (fun _ h9 => h9) rfl dX8_count_13 ?_
      refine lv_iconst (v := nI 0) hx hb dX8_count_16 rfl ?_
      refine mv_iald (f := to) hx hb hK hP 1 0 rfl rfl (by decide) (by decide) dX8_count_17 ?_
      refine mv_top (y := nI (mN to)) hm ?_
      refine mv_icmp_ge (tgt := 78) hx hb dX8_count_18 (by decide) (by omega) (by omega) (fun c_1 => (by omega : False).elim) (fun c_1 => ?_)
      refine lv_iload_n hx hb dX8_count_21 rfl (lv_at hl 3 rfl) ?_
      refine lv_aload_n hx hb dX8_count_22 rfl (lv_at hl 4 rfl) ?_
      refine va_get (D := D) (ci := 8) (v := .ref (ad 2)) (C := RX8) (T := TX8) (N := 18) hx hb hts (by decide +kernel) hown hK hP 0 rfl rfl 1 (by decide) (hts (.fieldLink RX8 13 "SummitTimeModel" "st" "[I") (by decide +kernel)) (fun _ h9 => h9) rfl dX8_count_23 ?_
      refine lv_bipush (v := nI 60) hx hb dX8_count_26 rfl ?_
      refine lv_iload hx hb dX8_count_28 (lv_at hl 0 rfl) ?_
      refine mv_iadd hx hb dX8_count_30 ?_
      refine mv_iald (f := st) hx hb hK hP 2 0 rfl rfl (by omega) (by decide) dX8_count_31 ?_
      refine mv_phi (v := (if (st (60 + k_10)) < 0 then nI 0 else ((nI 1) <<< ((nI k_10) &&& 31)))) (pcj := 43) (ls := ls) (rest' := [.int x2_10]) ?_ (fun J_2 => ?_)
      · refine lv_ior hx hb dX8_count_43 ?_
        refine lv_istore_n (lv' := [(2, .int (x2_10 ||| (if (st (60 + k_10)) < 0 then nI 0 else ((nI 1) <<< ((nI k_10) &&& 31))))), (5, .int (nI k_10)), (4, .int x4_10), (3, .int x3_10), (0, .ref (ad 0)), (1, .int wh)]) hx hb dX8_count_44 rfl hl (by decide) rfl (fun ls hl => ?_)
        refine lv_iload_n hx hb dX8_count_45 rfl (lv_at hl 3 rfl) ?_
        refine lv_aload_n hx hb dX8_count_46 rfl (lv_at hl 4 rfl) ?_
        refine lv_iload hx hb dX8_count_47 (lv_at hl 1 rfl) ?_
        refine vp_callSi (va_Run.run (va_runV (As := [.int (nI k_10)]) (rest := [.int x3_10]) ⟨hx, hb, hml, hown, hts⟩ (c_X8_fineOf l D cI cL cZ ad A to st mt rd un kp rw se k_10 (by first | assumption | omega) (by first | assumption | omega)) (cwV 1 hts gX8_count_X8_fineOf rfl rfl rfl (by decide +kernel) ⟨Nat.le_of_ble_eq_true rfl, Nat.le_of_ble_eq_true rfl⟩) ⟨sR_fb, va_recv hK hP (ci := 8) (q0 := 0) rfl rfl, sR_at hP hK hD hE⟩ rfl rfl hl.1 rfl (lv_room (Nat.le_of_ble_eq_true rfl)) dX8_count_49 ⟨Nat.zero_le _, Nat.zero_le _⟩)) (fun r hr => ?_)
        subst hr
        refine lv_iadd hx hb dX8_count_52 ?_
        refine lv_istore_n (lv' := [(3, .int (x3_10 + (f_X8_fineOf to st k_10))), (2, .int (x2_10 ||| (if (st (60 + k_10)) < 0 then nI 0 else ((nI 1) <<< ((nI k_10) &&& 31))))), (5, .int (nI k_10)), (4, .int x4_10), (0, .ref (ad 0)), (1, .int wh)]) hx hb dX8_count_53 rfl hl (by decide) rfl (fun ls hl => ?_)
        refine lv_iload hx hb dX8_count_54 (lv_at hl 3 rfl) ?_
        refine lv_aload_n hx hb dX8_count_56 rfl (lv_at hl 4 rfl) ?_
        refine va_get (D := D) (ci := 8) (v := .ref (ad 2)) (C := RX8) (T := TX8) (N := 18) hx hb hts (by decide +kernel) hown hK hP 0 rfl rfl 1 (by decide) (hts (.fieldLink RX8 13 "SummitTimeModel" "st" "[I") (by decide +kernel)) (fun _ h9 => h9) rfl dX8_count_57 ?_
        refine lv_bipush (v := nI 66) hx hb dX8_count_60 rfl ?_
        refine lv_iload hx hb dX8_count_62 (lv_at hl 2 rfl) ?_
        refine mv_iadd hx hb dX8_count_64 ?_
        refine mv_iald (f := st) hx hb hK hP 2 0 rfl rfl (by omega) (by decide) dX8_count_65 ?_
        refine lv_iload hx hb dX8_count_66 (lv_at hl 2 rfl) ?_
        refine lv_ishl hx hb dX8_count_68 ?_
        refine lv_ior hx hb dX8_count_69 ?_
        refine lv_istore (lv' := [(4, .int (x4_10 ||| ((st (66 + k_10)) <<< ((nI k_10) &&& 31)))), (3, .int (x3_10 + (f_X8_fineOf to st k_10))), (2, .int (x2_10 ||| (if (st (60 + k_10)) < 0 then nI 0 else ((nI 1) <<< ((nI k_10) &&& 31))))), (5, .int (nI k_10)), (0, .ref (ad 0)), (1, .int wh)]) hx hb dX8_count_70 hl (by decide) rfl (fun ls hl => ?_)
        refine mv_iinc (y := k_10 + 1) (lv' := [(5, .int (nI (k_10 + 1))), (4, .int (x4_10 ||| ((st (66 + k_10)) <<< ((nI k_10) &&& 31)))), (3, .int (x3_10 + (f_X8_fineOf to st k_10))), (2, .int (x2_10 ||| (if (st (60 + k_10)) < 0 then nI 0 else ((nI 1) <<< ((nI k_10) &&& 31))))), (0, .ref (ad 0)), (1, .int wh)]) hx hb dX8_count_72 hl (k := 3) rfl (nI_p1 _) (by decide) rfl (fun ls hl => ?_)
        refine lv_goto (tgt := 10) hx hb dX8_count_75 (by decide) ?_
        exact ih_10 (k_10 + 1) (x4_10 ||| ((st (66 + k_10)) <<< ((nI k_10) &&& 31))) (x3_10 + (f_X8_fineOf to st k_10)) (x2_10 ||| (if (st (60 + k_10)) < 0 then nI 0 else ((nI 1) <<< ((nI k_10) &&& 31)))) (by omega) (by have e9 := hL_10; rw [L_X8_count_10] at e9; exact e9) ls (lv_sub hl [0, 1, 2, 3, 4, 5] rfl)
      · refine lv_if_lt (tgt := 42) hx hb dX8_count_32 (by decide) (fun c_3 => ?_) (fun c_3 => ?_)
        · refine lv_iconst (v := nI 0) hx hb dX8_count_42 rfl ?_
          exact J_2 _ (by rw [if_pos c_3])
        · refine lv_iconst (v := nI 1) hx hb dX8_count_35 rfl ?_
          refine lv_iload hx hb dX8_count_36 (lv_at hl 0 rfl) ?_
          refine lv_ishl hx hb dX8_count_38 ?_
          refine lv_goto (tgt := 43) hx hb dX8_count_39 (by decide) ?_
          exact J_2 _ (by rw [if_neg c_3])
  exact loop_10 (mN to) 0 (nI 0) (nI 0) (nI 0) (by omega) hT_10_1.symm ls (lv_sub hl [0, 1, 2, 3, 4, 5] rfl)
def L_X8_clocks_32_b (to : (Nat → Int32)) (se : MUn) (wst0_12 : Nat → Int32) (k_12 : Nat) : Nat → Nat → Int32 → Int32
  | 0, _, x4_32 => x4_32
  | n_32 + 1, k_32, x4_32 => (L_X8_clocks_32_b to se wst0_12 k_12 n_32 (k_32 + 1) (if x4_32 = 0 then nI 0 else (if (f_X8_fineOf to (upd wst0_12 72 (nI k_12)) ((se.1 (2 * k_32)).toNatClampNeg)) = (se.1 ((2 * k_32) + 1)) then nI 1 else nI 0)))
def L_X8_clocks_12 (to : (Nat → Int32)) (se : MUn) : Nat → Nat → Int32 → (Nat → Int32) → Int32 × (Nat → Int32)
  | 0, _, x2_12, wst0_12 => (x2_12, wst0_12)
  | n_12 + 1, k_12, x2_12, wst0_12 => (L_X8_clocks_12 to se n_12 (k_12 + 1) (x2_12 ||| (if (L_X8_clocks_32_b to se wst0_12 k_12 se.2 0 (nI 1)) = 0 then nI 0 else ((nI 1) <<< ((nI k_12) &&& 31)))) (upd wst0_12 72 (nI k_12)))
def f_X8_clocks (to : (Nat → Int32)) (st : (Nat → Int32)) (se : MUn) : Int32 × (Nat → Int32) := ((L_X8_clocks_12 to se 10 0 (nI 0) st).1, (upd (L_X8_clocks_12 to se 10 0 (nI 0) st).2 72 (st 72)))
abbrev rm_X8_clocks : Room := { frames := 5, cells := 0, slots := 0, locals := 113 }
set_option maxHeartbeats 4000000 in
set_option maxRecDepth 100000 in
theorem c_X8_clocks (l : Launch) (D : va_G) (cI cL cZ : ClassId) (ad : Nat → Nat) (A : Nat → Prop) (to : (Nat → Int32)) (st : (Nat → Int32)) (mt : MTx) (rd : (Nat → Int32)) (un : MUn) (kp : MKp) (rw : MKp) (se : MUn)  (hso : ∀ j, j < 60 → (st j).toNatClampNeg < 6) (hse : se.2 ≤ 6) (hsp : ∀ k, k < se.2 → (se.1 (2 * k) = nI (se.1 (2 * k)).toNatClampNeg ∧ (se.1 (2 * k)).toNatClampNeg < 6)) : Met l yX8_clocks wsX8_clocks rm_X8_clocks (va_Pc [.ref (ad 0)] (sR D cI cL cZ A (mW cI cL cZ ad to st mt rd un kp rw se))) (va_Qi (fun (r : Int32) (u : (Nat → Int32)) => r = (f_X8_clocks to st se).1 ∧ u = (f_X8_clocks to st se).2) (fun (u : (Nat → Int32)) t => va_P D vwCl (mW cI cL cZ ad to u mt rd un kp rw se) t.heap) A) 0 0 A := by
  refine Met.ofW (cc := cX8_clocks) (maxL := 6) (ret := (some .int)) (by decide) rfl ?_
  intro p e s m args below meth c s₁ B hml hv
  obtain ⟨rfl, hP, hK, hD, hE⟩ := hv
  have hx := B.exec
  have hb := B.bytes
  have hr := B.returns
  have hts := atoms_spec (ws := wsX8_clocks) B.pre
  have hown : s.vm.findClass RX8 = some m.cls := findClass_of_methodNamed B.named
  have hlocks := B.notSynchronized
  have hS : va_S A s.heap s.heap [] := va_S.rf
  have hl := lv_entry ([.ref (ad 0)]) (n := 6) (Nat.le_of_ble_eq_true rfl)
  rw [lg_entry_eq]
  generalize (lg_sl ([.ref (ad 0)]) ++ List.replicate (6 - (lg_sl ([.ref (ad 0)])).length) Slot.unset).toArray = ls at hl ⊢
  have hl : lv_has ls 6 [(0, .ref (ad 0))] := hl
  obtain ⟨Q, hQe⟩ : ∃ Q, Q = MQ below (va_Qi (fun (r : Int32) (u : (Nat → Int32)) => r = (f_X8_clocks to st se).1 ∧ u = (f_X8_clocks to st se).2) (fun (u : (Nat → Int32)) t => va_P D vwCl (mW cI cL cZ ad to u mt rd un kp rw se) t.heap) A) ([.ref (ad 0)] : List Value).toArray s 0 0 A := ⟨_, rfl⟩
  show W p l e (headSpec wsX8_clocks rm_X8_clocks).room s m ([.ref (ad 0)] : List Value).toArray below meth c s.heap [] 0 0 (MQ below (va_Qi (fun (r : Int32) (u : (Nat → Int32)) => r = (f_X8_clocks to st se).1 ∧ u = (f_X8_clocks to st se).2) (fun (u : (Nat → Int32)) t => va_P D vwCl (mW cI cL cZ ad to u mt rd un kp rw se) t.heap) A) ([.ref (ad 0)] : List Value).toArray s 0 0 A) (F0 m 0 ls [])
  rw [← hQe]
  refine lv_aload_n hx hb dX8_clocks_0 rfl (lv_at hl 0 rfl) ?_
  refine va_get (D := D) (ci := 8) (v := .ref (ad 2)) (C := RX8) (T := TX8) (N := 18) hx hb hts (by decide +kernel) hown hK hP 0 rfl rfl 1 (by decide) (hts (.fieldLink RX8 13 "SummitTimeModel" "st" "[I") (by decide +kernel)) (fun _ h9 => h9) rfl dX8_clocks_1 ?_
  refine lv_bipush (v := nI 72) hx hb dX8_clocks_4 rfl ?_
  refine mv_iald (f := st) hx hb hK hP 2 0 rfl rfl (by decide) (by decide) dX8_clocks_6 ?_
  refine lv_istore_n (lv' := [(1, .int (st 72)), (0, .ref (ad 0))]) hx hb dX8_clocks_7 rfl hl (by decide) rfl (fun ls hl => ?_)
  refine lv_iconst (v := nI 0) hx hb dX8_clocks_8 rfl ?_
  refine lv_istore_n (lv' := [(2, .int (nI 0)), (1, .int (st 72)), (0, .ref (ad 0))]) hx hb dX8_clocks_9 rfl hl (by decide) rfl (fun ls hl => ?_)
  refine lv_iconst (v := nI 0) hx hb dX8_clocks_10 rfl ?_
  refine lv_istore_n (lv' := [(3, .int (nI 0)), (2, .int (nI 0)), (1, .int (st 72)), (0, .ref (ad 0))]) hx hb dX8_clocks_11 rfl hl (by decide) rfl (fun ls hl => ?_)
  obtain ⟨T_12_3, hT_12_3⟩ : ∃ z, z = (L_X8_clocks_12 to se 10 0 (nI 0) st) := ⟨_, rfl⟩
  have hexit_12 : ∀ (H : Heap) (locs : List Loc) (ls : Array Slot), va_P D vwCl (mW cI cL cZ ad to T_12_3.2 mt rd un kp rw se) H → va_S A s.heap H locs → lv_has ls 6 [(2, .int T_12_3.1), (1, .int (st 72)), (0, .ref (ad 0))] → W p l e (headSpec wsX8_clocks rm_X8_clocks).room s m ([.ref (ad 0)] : List Value).toArray below meth c H locs 0 0 Q (F0 m 107 ls []) := by
    intro H locs ls hP hS hl
    have hD : va_D A (mW cI cL cZ ad to T_12_3.2 mt rd un kp rw se) := mW_D hD
    refine lv_aload_n hx hb dX8_clocks_107 rfl (lv_at hl 2 rfl) ?_
    refine va_get (D := D) (ci := 8) (v := .ref (ad 2)) (C := RX8) (T := TX8) (N := 18) hx hb hts (by decide +kernel) hown hK hP 0 rfl rfl 1 (by decide) (hts (.fieldLink RX8 13 "SummitTimeModel" "st" "[I") (by decide +kernel)) (fun _ h9 => h9) rfl dX8_clocks_108 ?_
    refine lv_bipush (v := nI 72) hx hb dX8_clocks_111 rfl ?_
    refine lv_iload_n hx hb dX8_clocks_113 rfl (lv_at hl 1 rfl) ?_
    refine mv_iast (f := T_12_3.2) hx hb hK hP hD hS 2 0 rfl rfl (by decide) (by decide) dX8_clocks_114 (fun H locs hP hD hS => ?_)
    have hP : va_P D vwCl (mW cI cL cZ ad to (upd T_12_3.2 72 (st 72)) mt rd un kp rw se) H := hP
    have hD : va_D A (mW cI cL cZ ad to (upd T_12_3.2 72 (st 72)) mt rd un kp rw se) := hD
    refine lv_iload_n hx hb dX8_clocks_115 rfl (lv_at hl 0 rfl) ?_
    subst hQe
    have hf : (f_X8_clocks to st se) = (T_12_3.1, (upd T_12_3.2 72 (st 72))) := by subst hT_12_3; rw [f_X8_clocks]
    exact W.iret (v := T_12_3.1) hx hb hr (fun t ht hW => ⟨⟨T_12_3.1, (upd T_12_3.2 72 (st 72)), rfl, ⟨(congrArg Prod.fst hf).symm, (congrArg Prod.snd hf).symm⟩, va_Pt ht hP⟩, hS.F ht⟩) hS.2.2 dX8_clocks_116
  have loop_12 : ∀ (n_12 : Nat) (k_12 : Nat) (x2_12 : Int32) (wst0_12 : Nat → Int32), (k_12 + n_12 = 10) → (∀ j, j < 60 → (wst0_12 j).toNatClampNeg < 6) → L_X8_clocks_12 to se n_12 k_12 x2_12 wst0_12 = T_12_3 → ∀ (H : Heap) (locs : List Loc) (ls : Array Slot), va_P D vwCl (mW cI cL cZ ad to wst0_12 mt rd un kp rw se) H → va_S A s.heap H locs → lv_has ls 6 [(3, .int (nI k_12)), (2, .int x2_12), (1, .int (st 72)), (0, .ref (ad 0))] → W p l e (headSpec wsX8_clocks rm_X8_clocks).room s m ([.ref (ad 0)] : List Value).toArray below meth c H locs 0 0 Q (F0 m 12 ls []) := by
    intro n_12
    induction n_12 with
    | zero =>
      intro k_12 x2_12 wst0_12 hk_12 hsw hL_12 H locs ls hP hS hl
      have hD : va_D A (mW cI cL cZ ad to wst0_12 mt rd un kp rw se) := mW_D hD
      refine lv_iload_n hx hb dX8_clocks_12 rfl (lv_at hl 0 rfl) ?_
      refine lv_bipush (v := nI 10) hx hb dX8_clocks_13 rfl ?_
      refine mv_icmp_ge (tgt := 107) hx hb dX8_clocks_15 (by decide) (by omega) (by decide) (fun c_9 => ?_) (fun c_9 => (by omega : False).elim)
      have e9 : T_12_3 = (x2_12, wst0_12) := by rw [← hL_12, L_X8_clocks_12]
      have hq := hexit_12
      rw [e9] at hq
      exact hq _ _ ls  hP hS (lv_sub hl [1, 2, 3] rfl)
    | succ n_12 ih_12 =>
      intro k_12 x2_12 wst0_12 hk_12 hsw hL_12 H locs ls hP hS hl
      have hD : va_D A (mW cI cL cZ ad to wst0_12 mt rd un kp rw se) := mW_D hD
      refine lv_iload_n hx hb dX8_clocks_12 rfl (lv_at hl 0 rfl) ?_
      refine lv_bipush (v := nI 10) hx hb dX8_clocks_13 rfl ?_
      refine mv_icmp_ge (tgt := 107) hx hb dX8_clocks_15 (by decide) (by omega) (by decide) (fun c_1 => (by omega : False).elim) (fun c_1 => ?_)
      refine lv_aload_n hx hb dX8_clocks_18 rfl (lv_at hl 3 rfl) ?_
      refine va_get (D := D) (ci := 8) (v := .ref (ad 2)) (C := RX8) (T := TX8) (N := 18) hx hb hts (by decide +kernel) hown hK hP 0 rfl rfl 1 (by decide) (hts (.fieldLink RX8 13 "SummitTimeModel" "st" "[I") (by decide +kernel)) (fun _ h9 => h9) rfl dX8_clocks_19 ?_
      refine lv_bipush (v := nI 72) hx hb dX8_clocks_22 rfl ?_
      refine lv_iload_n hx hb dX8_clocks_24 rfl (lv_at hl 0 rfl) ?_
      refine mv_iast (f := wst0_12) hx hb hK hP hD hS 2 0 rfl rfl (by decide) (by decide) dX8_clocks_25 (fun H locs hP hD hS => ?_)
      have hP : va_P D vwCl (mW cI cL cZ ad to (upd wst0_12 72 (nI k_12)) mt rd un kp rw se) H := hP
      have hD : va_D A (mW cI cL cZ ad to (upd wst0_12 72 (nI k_12)) mt rd un kp rw se) := hD
      refine lv_iconst (v := nI 1) hx hb dX8_clocks_26 rfl ?_
      refine lv_istore (lv' := [(4, .int (nI 1)), (3, .int (nI k_12)), (2, .int x2_12), (1, .int (st 72)), (0, .ref (ad 0))]) hx hb dX8_clocks_27 hl (by decide) rfl (fun ls hl => ?_)
      refine lv_iconst (v := nI 0) hx hb dX8_clocks_29 rfl ?_
      refine lv_istore (lv' := [(5, .int (nI 0)), (4, .int (nI 1)), (3, .int (nI k_12)), (2, .int x2_12), (1, .int (st 72)), (0, .ref (ad 0))]) hx hb dX8_clocks_30 hl (by decide) rfl (fun ls hl => ?_)
      obtain ⟨T_32_4, hT_32_4⟩ : ∃ z, z = (L_X8_clocks_32_b to se wst0_12 k_12 se.2 0 (nI 1)) := ⟨_, rfl⟩
      have hexit_32 : ∀ (H : Heap) (locs : List Loc) (ls : Array Slot), va_P D vwCl (mW cI cL cZ ad to (upd wst0_12 72 (nI k_12)) mt rd un kp rw se) H → va_S A s.heap H locs → lv_has ls 6 [(4, .int T_32_4), (3, .int (nI k_12)), (2, .int x2_12), (1, .int (st 72)), (0, .ref (ad 0))] → W p l e (headSpec wsX8_clocks rm_X8_clocks).room s m ([.ref (ad 0)] : List Value).toArray below meth c H locs 0 0 Q (F0 m 86 ls []) := by
        intro H locs ls hP hS hl
        have hD : va_D A (mW cI cL cZ ad to (upd wst0_12 72 (nI k_12)) mt rd un kp rw se) := mW_D hD
        refine lv_iload_n hx hb dX8_clocks_86 rfl (lv_at hl 2 rfl) ?_
        refine lv_iload hx hb dX8_clocks_87 (lv_at hl 0 rfl) ?_
        refine mv_phi (v := (if T_32_4 = 0 then nI 0 else ((nI 1) <<< ((nI k_12) &&& 31)))) (pcj := 99) (ls := ls) (rest' := [.int x2_12]) ?_ (fun J_7 => ?_)
        · refine lv_ior hx hb dX8_clocks_99 ?_
          refine lv_istore_n (lv' := [(2, .int (x2_12 ||| (if T_32_4 = 0 then nI 0 else ((nI 1) <<< ((nI k_12) &&& 31))))), (4, .int T_32_4), (3, .int (nI k_12)), (1, .int (st 72)), (0, .ref (ad 0))]) hx hb dX8_clocks_100 rfl hl (by decide) rfl (fun ls hl => ?_)
          refine mv_iinc (y := k_12 + 1) (lv' := [(3, .int (nI (k_12 + 1))), (2, .int (x2_12 ||| (if T_32_4 = 0 then nI 0 else ((nI 1) <<< ((nI k_12) &&& 31))))), (4, .int T_32_4), (1, .int (st 72)), (0, .ref (ad 0))]) hx hb dX8_clocks_101 hl (k := 2) rfl (nI_p1 _) (by decide) rfl (fun ls hl => ?_)
          refine lv_goto (tgt := 12) hx hb dX8_clocks_104 (by decide) ?_
          exact ih_12 (k_12 + 1) (x2_12 ||| (if T_32_4 = 0 then nI 0 else ((nI 1) <<< ((nI k_12) &&& 31)))) (upd wst0_12 72 (nI k_12)) (by omega) (so_upd hsw (by decide)) (by subst hT_32_4; have e9 := hL_12; rw [L_X8_clocks_12] at e9; exact e9) _ _ ls hP hS (lv_sub hl [0, 1, 3, 4] rfl)
        · refine lv_if_eq (tgt := 98) hx hb dX8_clocks_89 (by decide) (fun c_8 => ?_) (fun c_8 => ?_)
          · refine lv_iconst (v := nI 0) hx hb dX8_clocks_98 rfl ?_
            exact J_7 _ (by rw [if_pos c_8])
          · refine lv_iconst (v := nI 1) hx hb dX8_clocks_92 rfl ?_
            refine lv_iload_n hx hb dX8_clocks_93 rfl (lv_at hl 1 rfl) ?_
            refine lv_ishl hx hb dX8_clocks_94 ?_
            refine lv_goto (tgt := 99) hx hb dX8_clocks_95 (by decide) ?_
            exact J_7 _ (by rw [if_neg c_8])
      have loop_32 : ∀ (n_32 : Nat) (k_32 : Nat) (x4_32 : Int32), (k_32 + n_32 = se.2) → L_X8_clocks_32_b to se wst0_12 k_12 n_32 k_32 x4_32 = T_32_4 → ∀ (H : Heap) (locs : List Loc) (ls : Array Slot), va_P D vwCl (mW cI cL cZ ad to (upd wst0_12 72 (nI k_12)) mt rd un kp rw se) H → va_S A s.heap H locs → lv_has ls 6 [(5, .int (nI k_32)), (4, .int x4_32), (3, .int (nI k_12)), (2, .int x2_12), (1, .int (st 72)), (0, .ref (ad 0))] → W p l e (headSpec wsX8_clocks rm_X8_clocks).room s m ([.ref (ad 0)] : List Value).toArray below meth c H locs 0 0 Q (F0 m 32 ls []) := by
        intro n_32
        induction n_32 with
        | zero =>
          intro k_32 x4_32 hk_32 hL_32 H locs ls hP hS hl
          have hD : va_D A (mW cI cL cZ ad to (upd wst0_12 72 (nI k_12)) mt rd un kp rw se) := mW_D hD
          refine lv_iload hx hb dX8_clocks_32 (lv_at hl 0 rfl) ?_
          refine lv_aload_n hx hb dX8_clocks_34 rfl (lv_at hl 5 rfl) ?_
          refine va_get (D := D) (ci := 8) (v := .int (nI se.2)) (C := RX8) (T := TX8) (N := 18) hx hb hts (by decide +kernel) hown hK hP 0 rfl rfl 17 (by decide) (hts (.fieldLink RX8 121 "SummitTimeModel" "seenMany" "I") (by decide +kernel)) (fun _ h9 => h9) rfl dX8_clocks_35 ?_
          refine mv_icmp_ge (tgt := 86) hx hb dX8_clocks_38 (by decide) (by omega) (by omega) (fun c_6 => ?_) (fun c_6 => (by omega : False).elim)
          have e9 : T_32_4 = x4_32 := by rw [← hL_32, L_X8_clocks_32_b]
          have hq := hexit_32
          rw [e9] at hq
          exact hq _ _ ls  hP hS (lv_sub hl [1, 2, 3, 4, 5] rfl)
        | succ n_32 ih_32 =>
          intro k_32 x4_32 hk_32 hL_32 H locs ls hP hS hl
          have hD : va_D A (mW cI cL cZ ad to (upd wst0_12 72 (nI k_12)) mt rd un kp rw se) := mW_D hD
          refine lv_iload hx hb dX8_clocks_32 (lv_at hl 0 rfl) ?_
          refine lv_aload_n hx hb dX8_clocks_34 rfl (lv_at hl 5 rfl) ?_
          refine va_get (D := D) (ci := 8) (v := .int (nI se.2)) (C := RX8) (T := TX8) (N := 18) hx hb hts (by decide +kernel) hown hK hP 0 rfl rfl 17 (by decide) (hts (.fieldLink RX8 121 "SummitTimeModel" "seenMany" "I") (by decide +kernel)) (fun _ h9 => h9) rfl dX8_clocks_35 ?_
          refine mv_icmp_ge (tgt := 86) hx hb dX8_clocks_38 (by decide) (by omega) (by omega) (fun c_2 => (by omega : False).elim) (fun c_2 => ?_)
          refine lv_iload hx hb dX8_clocks_41 (lv_at hl 1 rfl) ?_
          refine mv_phi (v := (if x4_32 = 0 then nI 0 else (if (f_X8_fineOf to (upd wst0_12 72 (nI k_12)) ((se.1 (2 * k_32)).toNatClampNeg)) = (se.1 ((2 * k_32) + 1)) then nI 1 else nI 0))) (pcj := 78) (ls := ls) (rest' := []) ?_ (fun J_3 => ?_)
          · refine lv_istore (lv' := [(4, .int (if x4_32 = 0 then nI 0 else (if (f_X8_fineOf to (upd wst0_12 72 (nI k_12)) ((se.1 (2 * k_32)).toNatClampNeg)) = (se.1 ((2 * k_32) + 1)) then nI 1 else nI 0))), (5, .int (nI k_32)), (3, .int (nI k_12)), (2, .int x2_12), (1, .int (st 72)), (0, .ref (ad 0))]) hx hb dX8_clocks_78 hl (by decide) rfl (fun ls hl => ?_)
            refine mv_iinc (y := k_32 + 1) (lv' := [(5, .int (nI (k_32 + 1))), (4, .int (if x4_32 = 0 then nI 0 else (if (f_X8_fineOf to (upd wst0_12 72 (nI k_12)) ((se.1 (2 * k_32)).toNatClampNeg)) = (se.1 ((2 * k_32) + 1)) then nI 1 else nI 0))), (3, .int (nI k_12)), (2, .int x2_12), (1, .int (st 72)), (0, .ref (ad 0))]) hx hb dX8_clocks_80 hl (k := 1) rfl (nI_p1 _) (by decide) rfl (fun ls hl => ?_)
            refine lv_goto (tgt := 32) hx hb dX8_clocks_83 (by decide) ?_
            exact ih_32 (k_32 + 1) (if x4_32 = 0 then nI 0 else (if (f_X8_fineOf to (upd wst0_12 72 (nI k_12)) ((se.1 (2 * k_32)).toNatClampNeg)) = (se.1 ((2 * k_32) + 1)) then nI 1 else nI 0)) (by omega) (by have e9 := hL_32; rw [L_X8_clocks_32_b] at e9; exact e9) _ _ ls hP hS (lv_sub hl [0, 1, 2, 3, 4, 5] rfl)
          · refine lv_if_eq (tgt := 77) hx hb dX8_clocks_43 (by decide) (fun c_4 => ?_) (fun c_4 => ?_)
            · refine lv_iconst (v := nI 0) hx hb dX8_clocks_77 rfl ?_
              exact J_3 _ (by rw [if_pos c_4])
            · refine lv_aload_n hx hb dX8_clocks_46 rfl (lv_at hl 5 rfl) ?_
              refine lv_aload_n hx hb dX8_clocks_47 rfl (lv_at hl 5 rfl) ?_
              refine va_get (D := D) (ci := 8) (v := .ref (ad 10)) (C := RX8) (T := TX8) (N := 18) hx hb hts (by decide +kernel) hown hK hP 0 rfl rfl 16 (by decide) (hts (.fieldLink RX8 38 "SummitTimeModel" "seens" "[I") (by decide +kernel)) (fun _ h9 => h9) rfl dX8_clocks_48 ?_
              refine lv_iconst (v := nI 2) hx hb dX8_clocks_51 rfl ?_
              refine lv_iload hx hb dX8_clocks_52 (lv_at hl 0 rfl) ?_
              refine mv_imul hx hb dX8_clocks_54 ?_
              refine mv_iald (f := se.1) hx hb hK hP 10 0 rfl rfl (by omega) (by decide) dX8_clocks_55 ?_
              refine mv_top (y := nI ((se.1 (2 * k_32)).toNatClampNeg)) (hsp k_32 (by omega)).1 ?_
              refine vp_callSi (va_Run.run (va_runV (As := [.int (nI ((se.1 (2 * k_32)).toNatClampNeg))]) (rest := []) ⟨hx, hb, hml, hown, hts⟩ (c_X8_fineOf l D cI cL cZ ad A to (upd wst0_12 72 (nI k_12)) mt rd un kp rw se ((se.1 (2 * k_32)).toNatClampNeg) (hsp k_32 (by omega)).2 (so_upd hsw (by decide))) (cwV 1 hts gX8_clocks_X8_fineOf rfl rfl rfl (by decide +kernel) ⟨Nat.le_of_ble_eq_true rfl, Nat.le_of_ble_eq_true rfl⟩) ⟨sR_fb, va_recv hK hP (ci := 8) (q0 := 0) rfl rfl, sR_at hP hK hD hE⟩ rfl rfl hl.1 rfl (lv_room (Nat.le_of_ble_eq_true rfl)) dX8_clocks_56 ⟨Nat.zero_le _, Nat.zero_le _⟩)) (fun r hr => ?_)
              subst hr
              refine lv_aload_n hx hb dX8_clocks_59 rfl (lv_at hl 5 rfl) ?_
              refine va_get (D := D) (ci := 8) (v := .ref (ad 10)) (C := RX8) (T := TX8) (N := 18) hx hb hts (by decide +kernel) hown hK hP 0 rfl rfl 16 (by decide) (hts (.fieldLink RX8 38 "SummitTimeModel" "seens" "[I") (by decide +kernel)) (fun _ h9 => h9) rfl dX8_clocks_60 ?_
              refine lv_iconst (v := nI 2) hx hb dX8_clocks_63 rfl ?_
              refine lv_iload hx hb dX8_clocks_64 (lv_at hl 0 rfl) ?_
              refine mv_imul hx hb dX8_clocks_66 ?_
              refine lv_iconst (v := nI 1) hx hb dX8_clocks_67 rfl ?_
              refine mv_iadd hx hb dX8_clocks_68 ?_
              refine mv_iald (f := se.1) hx hb hK hP 10 0 rfl rfl (by omega) (by decide) dX8_clocks_69 ?_
              refine lv_icmp_ne (tgt := 77) hx hb dX8_clocks_70 (by decide) (fun c_5 => ?_) (fun c_5 => ?_)
              · refine lv_iconst (v := nI 0) hx hb dX8_clocks_77 rfl ?_
                exact J_3 _ (by rw [if_neg c_4, if_neg c_5])
              · refine lv_iconst (v := nI 1) hx hb dX8_clocks_73 rfl ?_
                refine lv_goto (tgt := 78) hx hb dX8_clocks_74 (by decide) ?_
                exact J_3 _ (by rw [if_neg c_4, if_pos c_5])
      exact loop_32 se.2 0 (nI 1) (by omega) hT_32_4.symm _ _ ls hP hS (lv_sub hl [0, 1, 2, 3, 4, 5] rfl)
  exact loop_12 10 0 (nI 0) st (by omega) hso hT_12_3.symm _ _ ls hP hS (lv_sub hl [0, 1, 2, 3] rfl)
def L_X8_reached_22  : Nat → Nat → Int64 → Int64
  | 0, _, x1_22 => x1_22
  | n_22 + 1, k_22, x1_22 => (L_X8_reached_22 n_22 (k_22 + 1) (x1_22 ||| ((1 : Int64) <<< ((nI k_22).toInt64 &&& 63))))
def L_X8_reached_4 (to : (Nat → Int32)) (st : (Nat → Int32)) : Nat → Nat → Int64 → Int64
  | 0, _, x1_4 => x1_4
  | n_4 + 1, k_4, x1_4 => (L_X8_reached_4 to st n_4 (k_4 + 1) (L_X8_reached_22 (60 - (f_X8_thereBy to st k_4 (nI 0)).toNatClampNeg) ((f_X8_thereBy to st k_4 (nI 0)).toNatClampNeg) x1_4))
def f_X8_reached (to : (Nat → Int32)) (st : (Nat → Int32)) : Int64 := (L_X8_reached_4 to st (mN to) 0 (0 : Int64))
abbrev rm_X8_reached : Room := { frames := 2, cells := 0, slots := 0, locals := 44 }
set_option maxHeartbeats 4000000 in
set_option maxRecDepth 100000 in
theorem c_X8_reached (l : Launch) (D : va_G) (cI cL cZ : ClassId) (ad : Nat → Nat) (A : Nat → Prop) (to : (Nat → Int32)) (st : (Nat → Int32)) (mt : MTx) (rd : (Nat → Int32)) (un : MUn) (kp : MKp) (rw : MKp) (se : MUn)  (hm : to 0 = nI (mN to)) (hm6 : mN to ≤ 6) (hth : ∀ p, p < mN to → ¬ f_X8_thereBy to st p (nI 0) < 0) : Met l yX8_reached wsX8_reached rm_X8_reached (va_Pc [.ref (ad 0)] (sR D cI cL cZ A (mW cI cL cZ ad to st mt rd un kp rw se))) (vp_Sl (fun r => r = (f_X8_reached to st))) 0 0 (fun _ => False) := by
  refine Met.ofW (cc := cX8_reached) (maxL := 5) (ret := (some .long)) (by decide) rfl ?_
  intro p e s m args below meth c s₁ B hml hv
  obtain ⟨rfl, hP, hK, hD, hE⟩ := hv
  have hx := B.exec
  have hb := B.bytes
  have hr := B.returns
  have hts := atoms_spec (ws := wsX8_reached) B.pre
  have hown : s.vm.findClass RX8 = some m.cls := findClass_of_methodNamed B.named
  have hlocks := B.notSynchronized
  have hl := lv_entry ([.ref (ad 0)]) (n := 5) (Nat.le_of_ble_eq_true rfl)
  rw [lg_entry_eq]
  generalize (lg_sl ([.ref (ad 0)]) ++ List.replicate (5 - (lg_sl ([.ref (ad 0)])).length) Slot.unset).toArray = ls at hl ⊢
  have hl : lv_has ls 5 [(0, .ref (ad 0))] := hl
  obtain ⟨Q, hQe⟩ : ∃ Q, Q = MQ below (vp_Sl (fun r => r = (f_X8_reached to st))) ([.ref (ad 0)] : List Value).toArray s 0 0 (fun _ => False) := ⟨_, rfl⟩
  show W p l e (headSpec wsX8_reached rm_X8_reached).room s m ([.ref (ad 0)] : List Value).toArray below meth c s.heap [] 0 0 (MQ below (vp_Sl (fun r => r = (f_X8_reached to st))) ([.ref (ad 0)] : List Value).toArray s 0 0 (fun _ => False)) (F0 m 0 ls [])
  rw [← hQe]
  refine lv_lconst (v := 0) hx hb dX8_reached_0 rfl ?_
  refine lv_lstore_n (lv' := [(1, .long (0 : Int64)), (0, .ref (ad 0))]) hx hb dX8_reached_1 rfl hl (by decide) rfl (fun ls hl => ?_)
  refine lv_iconst (v := nI 0) hx hb dX8_reached_2 rfl ?_
  refine lv_istore_n (lv' := [(3, .int (nI 0)), (1, .long (0 : Int64)), (0, .ref (ad 0))]) hx hb dX8_reached_3 rfl hl (by decide) rfl (fun ls hl => ?_)
  obtain ⟨T_4_3, hT_4_3⟩ : ∃ z, z = (L_X8_reached_4 to st (mN to) 0 (0 : Int64)) := ⟨_, rfl⟩
  have hexit_4 : ∀ (ls : Array Slot), lv_has ls 5 [(1, .long T_4_3), (0, .ref (ad 0))] → W p l e (headSpec wsX8_reached rm_X8_reached).room s m ([.ref (ad 0)] : List Value).toArray below meth c s.heap [] 0 0 Q (F0 m 48 ls []) := by
    intro ls hl
    refine lv_lload_n hx hb dX8_reached_48 rfl (lv_at hl 0 rfl) ?_
    subst hQe
    have hf : (f_X8_reached to st) = T_4_3 := by subst hT_4_3; rw [f_X8_reached]
    exact W.lret (v := T_4_3) hx hb hr (fun t ht hW => ⟨T_4_3, rfl, hf.symm, ht⟩) (fun _ h => by cases h) dX8_reached_49
  have loop_4 : ∀ (n_4 : Nat) (k_4 : Nat) (x1_4 : Int64), (k_4 + n_4 = mN to) → L_X8_reached_4 to st n_4 k_4 x1_4 = T_4_3 → ∀ (ls : Array Slot), lv_has ls 5 [(3, .int (nI k_4)), (1, .long x1_4), (0, .ref (ad 0))] → W p l e (headSpec wsX8_reached rm_X8_reached).room s m ([.ref (ad 0)] : List Value).toArray below meth c s.heap [] 0 0 Q (F0 m 4 ls []) := by
    intro n_4
    induction n_4 with
    | zero =>
      intro k_4 x1_4 hk_4 hL_4 ls hl
      refine lv_iload_n hx hb dX8_reached_4 rfl (lv_at hl 0 rfl) ?_
      refine lv_aload_n hx hb dX8_reached_5 rfl (lv_at hl 2 rfl) ?_
      refine va_get (D := D) (ci := 8) (v := .ref (ad 1)) (C := RX8) (T := TX8) (N := 18) hx hb hts (by decide +kernel) hown hK hP 0 rfl rfl 0 (by decide) (hts (.fieldLink RX8 7 "SummitTimeModel" "told" "[I") (by decide +kernel)) (fun _ h9 => h9) rfl dX8_reached_6 ?_
      refine lv_iconst (v := nI 0) hx hb dX8_reached_9 rfl ?_
      refine mv_iald (f := to) hx hb hK hP 1 0 rfl rfl (by decide) (by decide) dX8_reached_10 ?_
      refine mv_top (y := nI (mN to)) hm ?_
      refine mv_icmp_ge (tgt := 48) hx hb dX8_reached_11 (by decide) (by omega) (by omega) (fun c_4 => ?_) (fun c_4 => (by omega : False).elim)
      have e9 : T_4_3 = x1_4 := by rw [← hL_4, L_X8_reached_4]
      have hq := hexit_4
      rw [e9] at hq
      exact hq ls  (lv_sub hl [1, 2] rfl)
    | succ n_4 ih_4 =>
      intro k_4 x1_4 hk_4 hL_4 ls hl
      refine lv_iload_n hx hb dX8_reached_4 rfl (lv_at hl 0 rfl) ?_
      refine lv_aload_n hx hb dX8_reached_5 rfl (lv_at hl 2 rfl) ?_
      refine va_get (D := D) (ci := 8) (v := .ref (ad 1)) (C := RX8) (T := TX8) (N := 18) hx hb hts (by decide +kernel) hown hK hP 0 rfl rfl 0 (by decide) (hts (.fieldLink RX8 7 "SummitTimeModel" "told" "[I") (by decide +kernel)) (fun _ h9 => h9) rfl dX8_reached_6 ?_
      refine lv_iconst (v := nI 0) hx hb dX8_reached_9 rfl ?_
      refine mv_iald (f := to) hx hb hK hP 1 0 rfl rfl (by decide) (by decide) dX8_reached_10 ?_
      refine mv_top (y := nI (mN to)) hm ?_
      refine mv_icmp_ge (tgt := 48) hx hb dX8_reached_11 (by decide) (by omega) (by omega) (fun c_1 => (by omega : False).elim) (fun c_1 => ?_)
      refine lv_aload_n hx hb dX8_reached_14 rfl (lv_at hl 2 rfl) ?_
      refine lv_iload_n hx hb dX8_reached_15 rfl (lv_at hl 0 rfl) ?_
      refine lv_iconst (v := nI 0) hx hb dX8_reached_16 rfl ?_
      refine vp_callSi (va_Run.run (va_runV (As := [.int (nI k_4), .int (nI 0)]) (rest := []) ⟨hx, hb, hml, hown, hts⟩ (c_X8_thereBy l D cI cL cZ ad A to st mt rd un kp rw se k_4 (nI 0) (by first | assumption | omega)) (cwV 2 hts gX8_reached_X8_thereBy rfl rfl rfl (by decide +kernel) ⟨Nat.le_of_ble_eq_true rfl, Nat.le_of_ble_eq_true rfl⟩) ⟨sR_fb, va_recv hK hP (ci := 8) (q0 := 0) rfl rfl, sR_at hP hK hD hE⟩ rfl rfl hl.1 rfl (lv_room (Nat.le_of_ble_eq_true rfl)) dX8_reached_17 ⟨Nat.zero_le _, Nat.zero_le _⟩)) (fun r hr => ?_)
      subst hr
      refine mv_top (y := nI ((f_X8_thereBy to st k_4 (nI 0)).toNatClampNeg)) (nI_nn (hth _ (by omega))) ?_
      have hs0 := cl_lt (f_X8_thereBy to st k_4 (nI 0))
      refine lv_istore (lv' := [(4, .int (nI ((f_X8_thereBy to st k_4 (nI 0)).toNatClampNeg))), (3, .int (nI k_4)), (1, .long x1_4), (0, .ref (ad 0))]) hx hb dX8_reached_20 hl (by decide) rfl (fun ls hl => ?_)
      obtain ⟨T_22_4, hT_22_4⟩ : ∃ z, z = (L_X8_reached_22 (60 - (f_X8_thereBy to st k_4 (nI 0)).toNatClampNeg) ((f_X8_thereBy to st k_4 (nI 0)).toNatClampNeg) x1_4) := ⟨_, rfl⟩
      have hexit_22 : ∀ (ls : Array Slot), lv_has ls 5 [(3, .int (nI k_4)), (1, .long T_22_4), (0, .ref (ad 0))] → W p l e (headSpec wsX8_reached rm_X8_reached).room s m ([.ref (ad 0)] : List Value).toArray below meth c s.heap [] 0 0 Q (F0 m 42 ls []) := by
        intro ls hl
        refine mv_iinc (y := k_4 + 1) (lv' := [(3, .int (nI (k_4 + 1))), (1, .long T_22_4), (0, .ref (ad 0))]) hx hb dX8_reached_42 hl (k := 0) rfl (nI_p1 _) (by decide) rfl (fun ls hl => ?_)
        refine lv_goto (tgt := 4) hx hb dX8_reached_45 (by decide) ?_
        exact ih_4 (k_4 + 1) T_22_4 (by omega) (by subst hT_22_4; have e9 := hL_4; rw [L_X8_reached_4] at e9; exact e9) ls (lv_sub hl [0, 1, 2] rfl)
      have loop_22 : ∀ (n_22 : Nat) (k_22 : Nat) (x1_22 : Int64), ((k_22 + n_22 = 60 ∨ (n_22 = 0 ∧ 60 ≤ k_22 ∧ k_22 < 2147483648))) → L_X8_reached_22 n_22 k_22 x1_22 = T_22_4 → ∀ (ls : Array Slot), lv_has ls 5 [(4, .int (nI k_22)), (3, .int (nI k_4)), (1, .long x1_22), (0, .ref (ad 0))] → W p l e (headSpec wsX8_reached rm_X8_reached).room s m ([.ref (ad 0)] : List Value).toArray below meth c s.heap [] 0 0 Q (F0 m 22 ls []) := by
        intro n_22
        induction n_22 with
        | zero =>
          intro k_22 x1_22 hi2 hL_22 ls hl
          refine lv_iload hx hb dX8_reached_22 (lv_at hl 0 rfl) ?_
          refine lv_bipush (v := nI 60) hx hb dX8_reached_24 rfl ?_
          refine mv_icmp_ge (tgt := 42) hx hb dX8_reached_26 (by decide) (by omega) (by decide) (fun c_3 => ?_) (fun c_3 => (by omega : False).elim)
          have e9 : T_22_4 = x1_22 := by rw [← hL_22, L_X8_reached_22]
          have hq := hexit_22
          rw [e9] at hq
          exact hq ls  (lv_sub hl [1, 2, 3] rfl)
        | succ n_22 ih_22 =>
          intro k_22 x1_22 hi2 hL_22 ls hl
          refine lv_iload hx hb dX8_reached_22 (lv_at hl 0 rfl) ?_
          refine lv_bipush (v := nI 60) hx hb dX8_reached_24 rfl ?_
          refine mv_icmp_ge (tgt := 42) hx hb dX8_reached_26 (by decide) (by omega) (by decide) (fun c_2 => (by omega : False).elim) (fun c_2 => ?_)
          refine lv_lload_n hx hb dX8_reached_29 rfl (lv_at hl 2 rfl) ?_
          refine lv_lconst (v := 1) hx hb dX8_reached_30 rfl ?_
          refine lv_iload hx hb dX8_reached_31 (lv_at hl 0 rfl) ?_
          refine lv_lshl hx hb dX8_reached_33 rfl ?_
          refine lv_lor hx hb dX8_reached_34 ?_
          refine lv_lstore_n (lv' := [(1, .long (x1_22 ||| ((1 : Int64) <<< ((nI k_22).toInt64 &&& 63)))), (4, .int (nI k_22)), (3, .int (nI k_4)), (0, .ref (ad 0))]) hx hb dX8_reached_35 rfl hl (by decide) rfl (fun ls hl => ?_)
          refine mv_iinc (y := k_22 + 1) (lv' := [(4, .int (nI (k_22 + 1))), (1, .long (x1_22 ||| ((1 : Int64) <<< ((nI k_22).toInt64 &&& 63)))), (3, .int (nI k_4)), (0, .ref (ad 0))]) hx hb dX8_reached_36 hl (k := 1) rfl (nI_p1 _) (by decide) rfl (fun ls hl => ?_)
          refine lv_goto (tgt := 22) hx hb dX8_reached_39 (by decide) ?_
          exact ih_22 (k_22 + 1) (x1_22 ||| ((1 : Int64) <<< ((nI k_22).toInt64 &&& 63))) (by omega) (by have e9 := hL_22; rw [L_X8_reached_22] at e9; exact e9) ls (lv_sub hl [0, 2, 1, 3] rfl)
      exact loop_22 (60 - (f_X8_thereBy to st k_4 (nI 0)).toNatClampNeg) ((f_X8_thereBy to st k_4 (nI 0)).toNatClampNeg) x1_4 (by omega) hT_22_4.symm ls (lv_sub hl [0, 1, 2, 3] rfl)
  exact loop_4 (mN to) 0 (0 : Int64) (by omega) hT_4_3.symm ls (lv_sub hl [0, 1, 2] rfl)
