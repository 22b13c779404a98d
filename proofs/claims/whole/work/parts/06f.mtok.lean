/-- the text's places are in their bounds -/
def mtOk (mt : MTx) : Prop := mt.2.1 ≤ 160 ∧ mt.2.2.1 ≤ mt.2.1 ∧ mt.2.2.2.2.2.1 ≤ 160
def f_X8_write (mt : MTx) (le : Int32) : Int32 × MTx := (if (f_X8_in le.toInt64 (0 : Int64) (255 : Int64)) = 0 then ((-3 : Int32), mt) else (if mt.2.1 = 160 then ((-5 : Int32), mt) else (nI (mt.2.1 + 1), ((upd mt.1 mt.2.1 le), (mt.2.1 + 1), mt.2.2.1, mt.2.2.2.1, mt.2.2.2.2.1, mt.2.2.2.2.2.1, mt.2.2.2.2.2.2))))
abbrev rm_X8_write : Room := { frames := 1, cells := 0, slots := 0, locals := 25 }
set_option maxHeartbeats 4000000 in
set_option maxRecDepth 100000 in
theorem c_X8_write (l : Launch) (D : va_G) (cI cL cZ : ClassId) (ad : Nat → Nat) (A : Nat → Prop) (to : (Nat → Int32)) (st : (Nat → Int32)) (mt : MTx) (rd : (Nat → Int32)) (un : MUn) (kp : MKp) (rw : MKp) (se : MUn) (le : Int32) (hl0 : mt.2.1 ≤ 160) : Met l yX8_write wsX8_write rm_X8_write (va_Pc [.ref (ad 0), .int le] (sR D cI cL cZ A (mW cI cL cZ ad to st mt rd un kp rw se))) (va_Qi (fun (r : Int32) (u : MTx) => r = (f_X8_write mt le).1 ∧ u = (f_X8_write mt le).2) (fun (u : MTx) t => va_P D vwCl (mW cI cL cZ ad to st u rd un kp rw se) t.heap) A) 0 0 A := by
  refine Met.ofW (cc := cX8_write) (maxL := 2) (ret := (some .int)) (by decide) rfl ?_
  intro p e s m args below meth c s₁ B hml hv
  obtain ⟨rfl, hP, hK, hD, hE⟩ := hv
  have hx := B.exec
  have hb := B.bytes
  have hr := B.returns
  have hts := atoms_spec (ws := wsX8_write) B.pre
  have hown : s.vm.findClass RX8 = some m.cls := findClass_of_methodNamed B.named
  have hlocks := B.notSynchronized
  have hS : va_S A s.heap s.heap [] := va_S.rf
  have hl := lv_entry ([.ref (ad 0), .int le]) (n := 2) (Nat.le_of_ble_eq_true rfl)
  rw [lg_entry_eq]
  generalize (lg_sl ([.ref (ad 0), .int le]) ++ List.replicate (2 - (lg_sl ([.ref (ad 0), .int le])).length) Slot.unset).toArray = ls at hl ⊢
  have hl : lv_has ls 2 [(0, .ref (ad 0)), (1, .int le)] := hl
  refine lv_iload_n hx hb dX8_write_0 rfl (lv_at hl 1 rfl) ?_
  refine lv_i2l hx hb dX8_write_1 rfl ?_
  refine lv_lconst (v := 0) hx hb dX8_write_2 rfl ?_
  refine lv_ldc2 (v := (255)) hx hb hown (hts (.constantLong RX8 48 (255)) (by decide +kernel)) dX8_write_3 ?_
  refine vp_callSi (va_Run.run (va_runS (As := [.long le.toInt64, .long (0 : Int64), .long (255 : Int64)]) (rest := []) ⟨hx, hb, hml, hown, hts⟩ (c_X8_in l le.toInt64 (0 : Int64) (255 : Int64) ) (va_cwS 3 hts gX8_write_X8_in rfl rfl rfl (by decide +kernel) ⟨Nat.le_of_ble_eq_true rfl, Nat.le_of_ble_eq_true rfl⟩) ⟨pR_fb, pR_at⟩ rfl rfl hl.1 rfl (lv_room (Nat.le_of_ble_eq_true rfl)) dX8_write_6 ⟨Nat.zero_le _, Nat.zero_le _⟩)) (fun r hr => ?_)
  subst hr
  refine lv_if_ne (tgt := 15) hx hb dX8_write_9 (by decide) (fun c_1 => ?_) (fun c_1 => ?_)
  · refine lv_aload_n hx hb dX8_write_15 rfl (lv_at hl 0 rfl) ?_
    refine va_get (D := D) (ci := 8) (v := .int (nI mt.2.1)) (C := RX8) (T := TX8) (N := 18) hx hb hts (by decide +kernel) hown hK hP 0 rfl rfl 3 (by decide) (hts (.fieldLink RX8 50 "SummitTimeModel" "letters" "I") (by decide +kernel)) (fun _ h9 => h9) rfl dX8_write_16 ?_
    refine lv_sipush (v := nI 160) hx hb dX8_write_19 rfl ?_
    refine mv_icmp_ne (tgt := 28) hx hb dX8_write_22 (by decide) (by omega) (by decide) (fun c_2 => ?_) (fun c_2 => ?_)
    · refine lv_aload_n hx hb dX8_write_28 rfl (lv_at hl 0 rfl) ?_
      refine va_get (D := D) (ci := 8) (v := .ref (ad 3)) (C := RX8) (T := TX8) (N := 18) hx hb hts (by decide +kernel) hown hK hP 0 rfl rfl 2 (by decide) (hts (.fieldLink RX8 16 "SummitTimeModel" "text" "[I") (by decide +kernel)) (fun _ h9 => h9) rfl dX8_write_29 ?_
      refine lv_aload_n hx hb dX8_write_32 rfl (lv_at hl 0 rfl) ?_
      refine va_get (D := D) (ci := 8) (v := .int (nI mt.2.1)) (C := RX8) (T := TX8) (N := 18) hx hb hts (by decide +kernel) hown hK hP 0 rfl rfl 3 (by decide) (hts (.fieldLink RX8 50 "SummitTimeModel" "letters" "I") (by decide +kernel)) (fun _ h9 => h9) rfl dX8_write_33 ?_
      refine lv_iload_n hx hb dX8_write_36 rfl (lv_at hl 1 rfl) ?_
      refine mv_iast (f := mt.1) hx hb hK hP hD hS 3 0 rfl rfl (by omega) (by decide) dX8_write_37 (fun H locs hP hD hS => ?_)
      have hP : va_P D vwCl (mW cI cL cZ ad to st ((upd mt.1 mt.2.1 le), mt.2.1, mt.2.2.1, mt.2.2.2.1, mt.2.2.2.2.1, mt.2.2.2.2.2.1, mt.2.2.2.2.2.2) rd un kp rw se) H := hP
      have hD : va_D A (mW cI cL cZ ad to st ((upd mt.1 mt.2.1 le), mt.2.1, mt.2.2.1, mt.2.2.2.1, mt.2.2.2.2.1, mt.2.2.2.2.2.1, mt.2.2.2.2.2.2) rd un kp rw se) := hD
      refine lv_aload_n hx hb dX8_write_38 rfl (lv_at hl 0 rfl) ?_
      refine lv_dup hx hb dX8_write_39 rfl ?_
      refine va_get (D := D) (ci := 8) (v := .int (nI mt.2.1)) (C := RX8) (T := TX8) (N := 18) hx hb hts (by decide +kernel) hown hK hP 0 rfl rfl 3 (by decide) (hts (.fieldLink RX8 50 "SummitTimeModel" "letters" "I") (by decide +kernel)) (fun _ h9 => h9) rfl dX8_write_40 ?_
      refine lv_iconst (v := nI 1) hx hb dX8_write_43 rfl ?_
      refine mv_iadd hx hb dX8_write_44 ?_
      refine va_put (D := D) (ci := 8) (v := .int (nI (mt.2.1 + 1))) (ty := .int) (C := RX8) (T := TX8) (N := 18) hx hb hts (by decide +kernel) tyX8 tyX8_ok nmX8 hown hK hP hD hS 0 rfl rfl 3 (by decide) (hts (.fieldLink RX8 50 "SummitTimeModel" "letters" "I") (by decide +kernel)) (fun _ h9 => h9) rfl (by decide +kernel) rfl rfl (Nat.le_of_ble_eq_true rfl) dX8_write_45 (fun H locs hP hD hS => ?_)
      have hP : va_P D vwCl (mW cI cL cZ ad to st ((upd mt.1 mt.2.1 le), (mt.2.1 + 1), mt.2.2.1, mt.2.2.2.1, mt.2.2.2.2.1, mt.2.2.2.2.2.1, mt.2.2.2.2.2.2) rd un kp rw se) H := hP
      have hD : va_D A (mW cI cL cZ ad to st ((upd mt.1 mt.2.1 le), (mt.2.1 + 1), mt.2.2.1, mt.2.2.2.1, mt.2.2.2.2.1, mt.2.2.2.2.2.1, mt.2.2.2.2.2.2) rd un kp rw se) := hD
      refine lv_aload_n hx hb dX8_write_48 rfl (lv_at hl 0 rfl) ?_
      refine va_get (D := D) (ci := 8) (v := .int (nI (mt.2.1 + 1))) (C := RX8) (T := TX8) (N := 18) hx hb hts (by decide +kernel) hown hK hP 0 rfl rfl 3 (by decide) (hts (.fieldLink RX8 50 "SummitTimeModel" "letters" "I") (by decide +kernel)) (fun _ h9 => h9) rfl dX8_write_49 ?_
      have hf : (f_X8_write mt le) = (nI (mt.2.1 + 1), ((upd mt.1 mt.2.1 le), (mt.2.1 + 1), mt.2.2.1, mt.2.2.2.1, mt.2.2.2.2.1, mt.2.2.2.2.2.1, mt.2.2.2.2.2.2)) := by rw [f_X8_write, if_neg c_1, if_neg c_2]
      exact W.iret (v := nI (mt.2.1 + 1)) hx hb hr (fun t ht hW => ⟨⟨nI (mt.2.1 + 1), ((upd mt.1 mt.2.1 le), (mt.2.1 + 1), mt.2.2.1, mt.2.2.2.1, mt.2.2.2.2.1, mt.2.2.2.2.2.1, mt.2.2.2.2.2.2), rfl, ⟨(congrArg Prod.fst hf).symm, (congrArg Prod.snd hf).symm⟩, va_Pt ht hP⟩, hS.F ht⟩) hS.2.2 dX8_write_52
    · refine lv_bipush (v := (-5)) hx hb dX8_write_25 rfl ?_
      have hf : (f_X8_write mt le) = ((-5 : Int32), mt) := by rw [f_X8_write, if_neg c_1, if_pos c_2]
      exact W.iret (v := (-5 : Int32)) hx hb hr (fun t ht hW => ⟨⟨(-5 : Int32), mt, rfl, ⟨(congrArg Prod.fst hf).symm, (congrArg Prod.snd hf).symm⟩, va_Pt ht hP⟩, hS.F ht⟩) hS.2.2 dX8_write_27
  · refine lv_bipush (v := (-3)) hx hb dX8_write_12 rfl ?_
    have hf : (f_X8_write mt le) = ((-3 : Int32), mt) := by rw [f_X8_write, if_pos c_1]
    exact W.iret (v := (-3 : Int32)) hx hb hr (fun t ht hW => ⟨⟨(-3 : Int32), mt, rfl, ⟨(congrArg Prod.fst hf).symm, (congrArg Prod.snd hf).symm⟩, va_Pt ht hP⟩, hS.F ht⟩) hS.2.2 dX8_write_14
def f_X8_erase (mt : MTx) : Int32 × MTx := (nI mt.2.1, (mt.1, 0, mt.2.2.1, mt.2.2.2.1, mt.2.2.2.2.1, mt.2.2.2.2.2.1, mt.2.2.2.2.2.2))
abbrev rm_X8_erase : Room := { frames := 0, cells := 0, slots := 0, locals := 0 }
set_option maxHeartbeats 4000000 in
set_option maxRecDepth 100000 in
theorem c_X8_erase (l : Launch) (D : va_G) (cI cL cZ : ClassId) (ad : Nat → Nat) (A : Nat → Prop) (to : (Nat → Int32)) (st : (Nat → Int32)) (mt : MTx) (rd : (Nat → Int32)) (un : MUn) (kp : MKp) (rw : MKp) (se : MUn)   : Met l yX8_erase wsX8_erase rm_X8_erase (va_Pc [.ref (ad 0)] (sR D cI cL cZ A (mW cI cL cZ ad to st mt rd un kp rw se))) (va_Qi (fun (r : Int32) (u : MTx) => r = (f_X8_erase mt).1 ∧ u = (f_X8_erase mt).2) (fun (u : MTx) t => va_P D vwCl (mW cI cL cZ ad to st u rd un kp rw se) t.heap) A) 0 0 A := by
  refine Met.ofW (cc := cX8_erase) (maxL := 2) (ret := (some .int)) (by decide) rfl ?_
  intro p e s m args below meth c s₁ B hml hv
  obtain ⟨rfl, hP, hK, hD, hE⟩ := hv
  have hx := B.exec
  have hb := B.bytes
  have hr := B.returns
  have hts := atoms_spec (ws := wsX8_erase) B.pre
  have hown : s.vm.findClass RX8 = some m.cls := findClass_of_methodNamed B.named
  have hlocks := B.notSynchronized
  have hS : va_S A s.heap s.heap [] := va_S.rf
  have hl := lv_entry ([.ref (ad 0)]) (n := 2) (Nat.le_of_ble_eq_true rfl)
  rw [lg_entry_eq]
  generalize (lg_sl ([.ref (ad 0)]) ++ List.replicate (2 - (lg_sl ([.ref (ad 0)])).length) Slot.unset).toArray = ls at hl ⊢
  have hl : lv_has ls 2 [(0, .ref (ad 0))] := hl
  refine lv_aload_n hx hb dX8_erase_0 rfl (lv_at hl 0 rfl) ?_
  refine va_get (D := D) (ci := 8) (v := .int (nI mt.2.1)) (C := RX8) (T := TX8) (N := 18) hx hb hts (by decide +kernel) hown hK hP 0 rfl rfl 3 (by decide) (hts (.fieldLink RX8 50 "SummitTimeModel" "letters" "I") (by decide +kernel)) (fun _ h9 => h9) rfl dX8_erase_1 ?_
  refine lv_istore_n (lv' := [(1, .int (nI mt.2.1)), (0, .ref (ad 0))]) hx hb dX8_erase_4 rfl hl (by decide) rfl (fun ls hl => ?_)
  refine lv_aload_n hx hb dX8_erase_5 rfl (lv_at hl 1 rfl) ?_
  refine lv_iconst (v := nI 0) hx hb dX8_erase_6 rfl ?_
  refine va_put (D := D) (ci := 8) (v := .int (nI 0)) (ty := .int) (C := RX8) (T := TX8) (N := 18) hx hb hts (by decide +kernel) tyX8 tyX8_ok nmX8 hown hK hP hD hS 0 rfl rfl 3 (by decide) (hts (.fieldLink RX8 50 "SummitTimeModel" "letters" "I") (by decide +kernel)) (fun _ h9 => h9) rfl (by decide +kernel) rfl rfl (Nat.le_of_ble_eq_true rfl) dX8_erase_7 (fun H locs hP hD hS => ?_)
  have hP : va_P D vwCl (mW cI cL cZ ad to st (mt.1, 0, mt.2.2.1, mt.2.2.2.1, mt.2.2.2.2.1, mt.2.2.2.2.2.1, mt.2.2.2.2.2.2) rd un kp rw se) H := hP
  have hD : va_D A (mW cI cL cZ ad to st (mt.1, 0, mt.2.2.1, mt.2.2.2.1, mt.2.2.2.2.1, mt.2.2.2.2.2.1, mt.2.2.2.2.2.2) rd un kp rw se) := hD
  refine lv_iload_n hx hb dX8_erase_10 rfl (lv_at hl 0 rfl) ?_
  have hf : (f_X8_erase mt) = (nI mt.2.1, (mt.1, 0, mt.2.2.1, mt.2.2.2.1, mt.2.2.2.2.1, mt.2.2.2.2.2.1, mt.2.2.2.2.2.2)) := by rw [f_X8_erase]
  exact W.iret (v := nI mt.2.1) hx hb hr (fun t ht hW => ⟨⟨nI mt.2.1, (mt.1, 0, mt.2.2.1, mt.2.2.2.1, mt.2.2.2.2.1, mt.2.2.2.2.2.1, mt.2.2.2.2.2.2), rfl, ⟨(congrArg Prod.fst hf).symm, (congrArg Prod.snd hf).symm⟩, va_Pt ht hP⟩, hS.F ht⟩) hS.2.2 dX8_erase_11
def f_X8_letterAt (mt : MTx) (kx : Nat) : Int32 := (if mt.2.1 ≤ kx then nI 0 else (mt.1 kx))
abbrev rm_X8_letterAt : Room := { frames := 0, cells := 0, slots := 0, locals := 0 }
set_option maxHeartbeats 4000000 in
set_option maxRecDepth 100000 in
theorem c_X8_letterAt (l : Launch) (D : va_G) (cI cL cZ : ClassId) (ad : Nat → Nat) (A : Nat → Prop) (to : (Nat → Int32)) (st : (Nat → Int32)) (mt : MTx) (rd : (Nat → Int32)) (un : MUn) (kp : MKp) (rw : MKp) (se : MUn) (kx : Nat) (hl0 : mt.2.1 ≤ 160) (hkx : kx ≤ 1000) : Met l yX8_letterAt wsX8_letterAt rm_X8_letterAt (va_Pc [.ref (ad 0), .int (nI kx)] (sR D cI cL cZ A (mW cI cL cZ ad to st mt rd un kp rw se))) (vp_Si (fun r => r = (f_X8_letterAt mt kx))) 0 0 (fun _ => False) := by
  refine Met.ofW (cc := cX8_letterAt) (maxL := 2) (ret := (some .int)) (by decide) rfl ?_
  intro p e s m args below meth c s₁ B hml hv
  obtain ⟨rfl, hP, hK, hD, hE⟩ := hv
  have hx := B.exec
  have hb := B.bytes
  have hr := B.returns
  have hts := atoms_spec (ws := wsX8_letterAt) B.pre
  have hown : s.vm.findClass RX8 = some m.cls := findClass_of_methodNamed B.named
  have hlocks := B.notSynchronized
  have hl := lv_entry ([.ref (ad 0), .int (nI kx)]) (n := 2) (Nat.le_of_ble_eq_true rfl)
  rw [lg_entry_eq]
  generalize (lg_sl ([.ref (ad 0), .int (nI kx)]) ++ List.replicate (2 - (lg_sl ([.ref (ad 0), .int (nI kx)])).length) Slot.unset).toArray = ls at hl ⊢
  have hl : lv_has ls 2 [(0, .ref (ad 0)), (1, .int (nI kx))] := hl
  refine lv_iload_n hx hb dX8_letterAt_0 rfl (lv_at hl 1 rfl) ?_
  refine lv_aload_n hx hb dX8_letterAt_1 rfl (lv_at hl 0 rfl) ?_
  refine va_get (D := D) (ci := 8) (v := .int (nI mt.2.1)) (C := RX8) (T := TX8) (N := 18) hx hb hts (by decide +kernel) hown hK hP 0 rfl rfl 3 (by decide) (hts (.fieldLink RX8 50 "SummitTimeModel" "letters" "I") (by decide +kernel)) (fun _ h9 => h9) rfl dX8_letterAt_2 ?_
  refine mv_phi (v := (if mt.2.1 ≤ kx then nI 0 else (mt.1 kx))) (pcj := 18) (ls := ls) (rest' := []) ?_ (fun J_1 => ?_)
  · have hf : (f_X8_letterAt mt kx) = (if mt.2.1 ≤ kx then nI 0 else (mt.1 kx)) := by rw [f_X8_letterAt]
    exact W.iret (v := (if mt.2.1 ≤ kx then nI 0 else (mt.1 kx))) hx hb hr (fun t ht hW => ⟨(if mt.2.1 ≤ kx then nI 0 else (mt.1 kx)), rfl, hf.symm, ht⟩) (fun _ h => by cases h) dX8_letterAt_18
  · refine mv_icmp_ge (tgt := 17) hx hb dX8_letterAt_5 (by decide) (by omega) (by omega) (fun c_2 => ?_) (fun c_2 => ?_)
    · refine lv_iconst (v := nI 0) hx hb dX8_letterAt_17 rfl ?_
      exact J_1 _ (by rw [if_pos c_2])
    · refine lv_aload_n hx hb dX8_letterAt_8 rfl (lv_at hl 0 rfl) ?_
      refine va_get (D := D) (ci := 8) (v := .ref (ad 3)) (C := RX8) (T := TX8) (N := 18) hx hb hts (by decide +kernel) hown hK hP 0 rfl rfl 2 (by decide) (hts (.fieldLink RX8 16 "SummitTimeModel" "text" "[I") (by decide +kernel)) (fun _ h9 => h9) rfl dX8_letterAt_9 ?_
      refine lv_iload_n hx hb dX8_letterAt_12 rfl (lv_at hl 1 rfl) ?_
      refine mv_iald (f := mt.1) hx hb hK hP 3 0 rfl rfl (by omega) (by decide) dX8_letterAt_13 ?_
      refine lv_goto (tgt := 18) hx hb dX8_letterAt_14 (by decide) ?_
      exact J_1 _ (by rw [if_neg c_2])
theorem la_0 {mt : MTx} {k : Nat} (h : mt.2.1 ≤ k) : f_X8_letterAt mt k = nI 0 := if_pos h
theorem la_lt {mt : MTx} {k : Nat} {v : Int32} (h : f_X8_letterAt mt k = v) (hv : v ≠ nI 0) : k < mt.2.1 := by
  rcases Nat.lt_or_ge k mt.2.1 with q | q
  · exact q
  · exact absurd ((h.symm.trans (la_0 q))) hv
theorem la_in {mt : MTx} {k : Nat} {lo hi : Int64} (h : ¬ f_X8_in (f_X8_letterAt mt k).toInt64 lo hi = 0) (hv : 0 < lo.toInt) : k < mt.2.1 := by
  rcases Nat.lt_or_ge k mt.2.1 with q | q
  · exact q
  · refine absurd (in_iff.mpr fun z => ?_) h
    rw [la_0 q, Int64.le_iff_toInt_le] at z
    have : (nI 0).toInt64.toInt = 0 := by decide
    omega
theorem nt_tok {a b : Nat} (h : a ≤ b) : (if a = b then nI 3 else nI 0) = 0 → a < b := by
  intro c
  by_cases e : a = b
  · rw [if_pos e] at c
    exact absurd c (by decide)
  · omega
def L_X8_nextToken_0 (mt : MTx) : Nat → Nat → Nat
  | 0, wmt2_0 => wmt2_0
  | n_0 + 1, wmt2_0 => (if (f_X8_letterAt (mt.1, mt.2.1, wmt2_0, mt.2.2.2.1, mt.2.2.2.2.1, mt.2.2.2.2.2.1, mt.2.2.2.2.2.2) wmt2_0) = nI 32 then (L_X8_nextToken_0 mt n_0 (wmt2_0 + 1)) else wmt2_0)
def L_X8_nextToken_59 (mt : MTx) (T_0 : Nat) : Nat → Nat → Int32 → Nat × Int32
  | 0, wmt2_59, wmt3_59 => (if nI 2 ≤ wmt3_59 then (wmt2_59, wmt3_59) else (wmt2_59, wmt3_59))
  | n_59 + 1, wmt2_59, wmt3_59 => (if nI 2 ≤ wmt3_59 then (wmt2_59, wmt3_59) else (if (f_X8_in ((f_X8_letterAt (mt.1, mt.2.1, wmt2_59, wmt3_59, (nI 0), T_0, mt.2.2.2.2.2.2) wmt2_59).toInt64) (97 : Int64) (122 : Int64)) = 0 then (wmt2_59, wmt3_59) else (L_X8_nextToken_59 mt T_0 n_59 (wmt2_59 + 1) (nI 1))))
def L_X8_nextToken_106 (mt : MTx) (T_0 : Nat) : Nat → Nat → Int32 → Int32 → Nat × Int32 × Int32
  | 0, wmt2_106, wmt3_106, wmt4_106 => (if wmt3_106 = nI 1 then (wmt2_106, wmt3_106, wmt4_106) else (wmt2_106, wmt3_106, wmt4_106))
  | n_106 + 1, wmt2_106, wmt3_106, wmt4_106 => (if wmt3_106 = nI 1 then (wmt2_106, wmt3_106, wmt4_106) else (if (f_X8_in ((f_X8_letterAt (mt.1, mt.2.1, wmt2_106, wmt3_106, wmt4_106, T_0, mt.2.2.2.2.2.2) wmt2_106).toInt64) (48 : Int64) (57 : Int64)) = 0 then (wmt2_106, wmt3_106, wmt4_106) else (L_X8_nextToken_106 mt T_0 n_106 (wmt2_106 + 1) (nI 2) (if wmt4_106 ≤ nI 99 then ((((nI 10) * wmt4_106) + (mt.1 wmt2_106)) - (nI 48)) else wmt4_106))))
def f_X8_nextToken (mt : MTx) : MTx := (if (L_X8_nextToken_106 mt (L_X8_nextToken_0 mt mt.2.1 mt.2.2.1) mt.2.1 (L_X8_nextToken_59 mt (L_X8_nextToken_0 mt mt.2.1 mt.2.2.1) mt.2.1 (L_X8_nextToken_0 mt mt.2.1 mt.2.2.1) (if (L_X8_nextToken_0 mt mt.2.1 mt.2.2.1) = mt.2.1 then nI 3 else nI 0)).1 (L_X8_nextToken_59 mt (L_X8_nextToken_0 mt mt.2.1 mt.2.2.1) mt.2.1 (L_X8_nextToken_0 mt mt.2.1 mt.2.2.1) (if (L_X8_nextToken_0 mt mt.2.1 mt.2.2.1) = mt.2.1 then nI 3 else nI 0)).2 (nI 0)).2.1 = nI 2 then (if ((nI (L_X8_nextToken_106 mt (L_X8_nextToken_0 mt mt.2.1 mt.2.2.1) mt.2.1 (L_X8_nextToken_59 mt (L_X8_nextToken_0 mt mt.2.1 mt.2.2.1) mt.2.1 (L_X8_nextToken_0 mt mt.2.1 mt.2.2.1) (if (L_X8_nextToken_0 mt mt.2.1 mt.2.2.1) = mt.2.1 then nI 3 else nI 0)).1 (L_X8_nextToken_59 mt (L_X8_nextToken_0 mt mt.2.1 mt.2.2.1) mt.2.1 (L_X8_nextToken_0 mt mt.2.1 mt.2.2.1) (if (L_X8_nextToken_0 mt mt.2.1 mt.2.2.1) = mt.2.1 then nI 3 else nI 0)).2 (nI 0)).1) - (nI (L_X8_nextToken_0 mt mt.2.1 mt.2.2.1))) ≤ nI 2 then (if (L_X8_nextToken_106 mt (L_X8_nextToken_0 mt mt.2.1 mt.2.2.1) mt.2.1 (L_X8_nextToken_59 mt (L_X8_nextToken_0 mt mt.2.1 mt.2.2.1) mt.2.1 (L_X8_nextToken_0 mt mt.2.1 mt.2.2.1) (if (L_X8_nextToken_0 mt mt.2.1 mt.2.2.1) = mt.2.1 then nI 3 else nI 0)).1 (L_X8_nextToken_59 mt (L_X8_nextToken_0 mt mt.2.1 mt.2.2.1) mt.2.1 (L_X8_nextToken_0 mt mt.2.1 mt.2.2.1) (if (L_X8_nextToken_0 mt mt.2.1 mt.2.2.1) = mt.2.1 then nI 3 else nI 0)).2 (nI 0)).2.1 = 0 then (mt.1, mt.2.1, ((L_X8_nextToken_106 mt (L_X8_nextToken_0 mt mt.2.1 mt.2.2.1) mt.2.1 (L_X8_nextToken_59 mt (L_X8_nextToken_0 mt mt.2.1 mt.2.2.1) mt.2.1 (L_X8_nextToken_0 mt mt.2.1 mt.2.2.1) (if (L_X8_nextToken_0 mt mt.2.1 mt.2.2.1) = mt.2.1 then nI 3 else nI 0)).1 (L_X8_nextToken_59 mt (L_X8_nextToken_0 mt mt.2.1 mt.2.2.1) mt.2.1 (L_X8_nextToken_0 mt mt.2.1 mt.2.2.1) (if (L_X8_nextToken_0 mt mt.2.1 mt.2.2.1) = mt.2.1 then nI 3 else nI 0)).2 (nI 0)).1 + 1), (L_X8_nextToken_106 mt (L_X8_nextToken_0 mt mt.2.1 mt.2.2.1) mt.2.1 (L_X8_nextToken_59 mt (L_X8_nextToken_0 mt mt.2.1 mt.2.2.1) mt.2.1 (L_X8_nextToken_0 mt mt.2.1 mt.2.2.1) (if (L_X8_nextToken_0 mt mt.2.1 mt.2.2.1) = mt.2.1 then nI 3 else nI 0)).1 (L_X8_nextToken_59 mt (L_X8_nextToken_0 mt mt.2.1 mt.2.2.1) mt.2.1 (L_X8_nextToken_0 mt mt.2.1 mt.2.2.1) (if (L_X8_nextToken_0 mt mt.2.1 mt.2.2.1) = mt.2.1 then nI 3 else nI 0)).2 (nI 0)).2.1, (mt.1 (L_X8_nextToken_106 mt (L_X8_nextToken_0 mt mt.2.1 mt.2.2.1) mt.2.1 (L_X8_nextToken_59 mt (L_X8_nextToken_0 mt mt.2.1 mt.2.2.1) mt.2.1 (L_X8_nextToken_0 mt mt.2.1 mt.2.2.1) (if (L_X8_nextToken_0 mt mt.2.1 mt.2.2.1) = mt.2.1 then nI 3 else nI 0)).1 (L_X8_nextToken_59 mt (L_X8_nextToken_0 mt mt.2.1 mt.2.2.1) mt.2.1 (L_X8_nextToken_0 mt mt.2.1 mt.2.2.1) (if (L_X8_nextToken_0 mt mt.2.1 mt.2.2.1) = mt.2.1 then nI 3 else nI 0)).2 (nI 0)).1), (L_X8_nextToken_0 mt mt.2.1 mt.2.2.1), mt.2.2.2.2.2.2) else (mt.1, mt.2.1, (L_X8_nextToken_106 mt (L_X8_nextToken_0 mt mt.2.1 mt.2.2.1) mt.2.1 (L_X8_nextToken_59 mt (L_X8_nextToken_0 mt mt.2.1 mt.2.2.1) mt.2.1 (L_X8_nextToken_0 mt mt.2.1 mt.2.2.1) (if (L_X8_nextToken_0 mt mt.2.1 mt.2.2.1) = mt.2.1 then nI 3 else nI 0)).1 (L_X8_nextToken_59 mt (L_X8_nextToken_0 mt mt.2.1 mt.2.2.1) mt.2.1 (L_X8_nextToken_0 mt mt.2.1 mt.2.2.1) (if (L_X8_nextToken_0 mt mt.2.1 mt.2.2.1) = mt.2.1 then nI 3 else nI 0)).2 (nI 0)).1, (L_X8_nextToken_106 mt (L_X8_nextToken_0 mt mt.2.1 mt.2.2.1) mt.2.1 (L_X8_nextToken_59 mt (L_X8_nextToken_0 mt mt.2.1 mt.2.2.1) mt.2.1 (L_X8_nextToken_0 mt mt.2.1 mt.2.2.1) (if (L_X8_nextToken_0 mt mt.2.1 mt.2.2.1) = mt.2.1 then nI 3 else nI 0)).1 (L_X8_nextToken_59 mt (L_X8_nextToken_0 mt mt.2.1 mt.2.2.1) mt.2.1 (L_X8_nextToken_0 mt mt.2.1 mt.2.2.1) (if (L_X8_nextToken_0 mt mt.2.1 mt.2.2.1) = mt.2.1 then nI 3 else nI 0)).2 (nI 0)).2.1, (L_X8_nextToken_106 mt (L_X8_nextToken_0 mt mt.2.1 mt.2.2.1) mt.2.1 (L_X8_nextToken_59 mt (L_X8_nextToken_0 mt mt.2.1 mt.2.2.1) mt.2.1 (L_X8_nextToken_0 mt mt.2.1 mt.2.2.1) (if (L_X8_nextToken_0 mt mt.2.1 mt.2.2.1) = mt.2.1 then nI 3 else nI 0)).1 (L_X8_nextToken_59 mt (L_X8_nextToken_0 mt mt.2.1 mt.2.2.1) mt.2.1 (L_X8_nextToken_0 mt mt.2.1 mt.2.2.1) (if (L_X8_nextToken_0 mt mt.2.1 mt.2.2.1) = mt.2.1 then nI 3 else nI 0)).2 (nI 0)).2.2, (L_X8_nextToken_0 mt mt.2.1 mt.2.2.1), mt.2.2.2.2.2.2)) else (if (L_X8_nextToken_106 mt (L_X8_nextToken_0 mt mt.2.1 mt.2.2.1) mt.2.1 (L_X8_nextToken_59 mt (L_X8_nextToken_0 mt mt.2.1 mt.2.2.1) mt.2.1 (L_X8_nextToken_0 mt mt.2.1 mt.2.2.1) (if (L_X8_nextToken_0 mt mt.2.1 mt.2.2.1) = mt.2.1 then nI 3 else nI 0)).1 (L_X8_nextToken_59 mt (L_X8_nextToken_0 mt mt.2.1 mt.2.2.1) mt.2.1 (L_X8_nextToken_0 mt mt.2.1 mt.2.2.1) (if (L_X8_nextToken_0 mt mt.2.1 mt.2.2.1) = mt.2.1 then nI 3 else nI 0)).2 (nI 0)).2.1 = 0 then (mt.1, mt.2.1, ((L_X8_nextToken_106 mt (L_X8_nextToken_0 mt mt.2.1 mt.2.2.1) mt.2.1 (L_X8_nextToken_59 mt (L_X8_nextToken_0 mt mt.2.1 mt.2.2.1) mt.2.1 (L_X8_nextToken_0 mt mt.2.1 mt.2.2.1) (if (L_X8_nextToken_0 mt mt.2.1 mt.2.2.1) = mt.2.1 then nI 3 else nI 0)).1 (L_X8_nextToken_59 mt (L_X8_nextToken_0 mt mt.2.1 mt.2.2.1) mt.2.1 (L_X8_nextToken_0 mt mt.2.1 mt.2.2.1) (if (L_X8_nextToken_0 mt mt.2.1 mt.2.2.1) = mt.2.1 then nI 3 else nI 0)).2 (nI 0)).1 + 1), (L_X8_nextToken_106 mt (L_X8_nextToken_0 mt mt.2.1 mt.2.2.1) mt.2.1 (L_X8_nextToken_59 mt (L_X8_nextToken_0 mt mt.2.1 mt.2.2.1) mt.2.1 (L_X8_nextToken_0 mt mt.2.1 mt.2.2.1) (if (L_X8_nextToken_0 mt mt.2.1 mt.2.2.1) = mt.2.1 then nI 3 else nI 0)).1 (L_X8_nextToken_59 mt (L_X8_nextToken_0 mt mt.2.1 mt.2.2.1) mt.2.1 (L_X8_nextToken_0 mt mt.2.1 mt.2.2.1) (if (L_X8_nextToken_0 mt mt.2.1 mt.2.2.1) = mt.2.1 then nI 3 else nI 0)).2 (nI 0)).2.1, (mt.1 (L_X8_nextToken_106 mt (L_X8_nextToken_0 mt mt.2.1 mt.2.2.1) mt.2.1 (L_X8_nextToken_59 mt (L_X8_nextToken_0 mt mt.2.1 mt.2.2.1) mt.2.1 (L_X8_nextToken_0 mt mt.2.1 mt.2.2.1) (if (L_X8_nextToken_0 mt mt.2.1 mt.2.2.1) = mt.2.1 then nI 3 else nI 0)).1 (L_X8_nextToken_59 mt (L_X8_nextToken_0 mt mt.2.1 mt.2.2.1) mt.2.1 (L_X8_nextToken_0 mt mt.2.1 mt.2.2.1) (if (L_X8_nextToken_0 mt mt.2.1 mt.2.2.1) = mt.2.1 then nI 3 else nI 0)).2 (nI 0)).1), (L_X8_nextToken_0 mt mt.2.1 mt.2.2.1), mt.2.2.2.2.2.2) else (mt.1, mt.2.1, (L_X8_nextToken_106 mt (L_X8_nextToken_0 mt mt.2.1 mt.2.2.1) mt.2.1 (L_X8_nextToken_59 mt (L_X8_nextToken_0 mt mt.2.1 mt.2.2.1) mt.2.1 (L_X8_nextToken_0 mt mt.2.1 mt.2.2.1) (if (L_X8_nextToken_0 mt mt.2.1 mt.2.2.1) = mt.2.1 then nI 3 else nI 0)).1 (L_X8_nextToken_59 mt (L_X8_nextToken_0 mt mt.2.1 mt.2.2.1) mt.2.1 (L_X8_nextToken_0 mt mt.2.1 mt.2.2.1) (if (L_X8_nextToken_0 mt mt.2.1 mt.2.2.1) = mt.2.1 then nI 3 else nI 0)).2 (nI 0)).1, (L_X8_nextToken_106 mt (L_X8_nextToken_0 mt mt.2.1 mt.2.2.1) mt.2.1 (L_X8_nextToken_59 mt (L_X8_nextToken_0 mt mt.2.1 mt.2.2.1) mt.2.1 (L_X8_nextToken_0 mt mt.2.1 mt.2.2.1) (if (L_X8_nextToken_0 mt mt.2.1 mt.2.2.1) = mt.2.1 then nI 3 else nI 0)).1 (L_X8_nextToken_59 mt (L_X8_nextToken_0 mt mt.2.1 mt.2.2.1) mt.2.1 (L_X8_nextToken_0 mt mt.2.1 mt.2.2.1) (if (L_X8_nextToken_0 mt mt.2.1 mt.2.2.1) = mt.2.1 then nI 3 else nI 0)).2 (nI 0)).2.1, (nI 999), (L_X8_nextToken_0 mt mt.2.1 mt.2.2.1), mt.2.2.2.2.2.2))) else (if (L_X8_nextToken_106 mt (L_X8_nextToken_0 mt mt.2.1 mt.2.2.1) mt.2.1 (L_X8_nextToken_59 mt (L_X8_nextToken_0 mt mt.2.1 mt.2.2.1) mt.2.1 (L_X8_nextToken_0 mt mt.2.1 mt.2.2.1) (if (L_X8_nextToken_0 mt mt.2.1 mt.2.2.1) = mt.2.1 then nI 3 else nI 0)).1 (L_X8_nextToken_59 mt (L_X8_nextToken_0 mt mt.2.1 mt.2.2.1) mt.2.1 (L_X8_nextToken_0 mt mt.2.1 mt.2.2.1) (if (L_X8_nextToken_0 mt mt.2.1 mt.2.2.1) = mt.2.1 then nI 3 else nI 0)).2 (nI 0)).2.1 = 0 then (mt.1, mt.2.1, ((L_X8_nextToken_106 mt (L_X8_nextToken_0 mt mt.2.1 mt.2.2.1) mt.2.1 (L_X8_nextToken_59 mt (L_X8_nextToken_0 mt mt.2.1 mt.2.2.1) mt.2.1 (L_X8_nextToken_0 mt mt.2.1 mt.2.2.1) (if (L_X8_nextToken_0 mt mt.2.1 mt.2.2.1) = mt.2.1 then nI 3 else nI 0)).1 (L_X8_nextToken_59 mt (L_X8_nextToken_0 mt mt.2.1 mt.2.2.1) mt.2.1 (L_X8_nextToken_0 mt mt.2.1 mt.2.2.1) (if (L_X8_nextToken_0 mt mt.2.1 mt.2.2.1) = mt.2.1 then nI 3 else nI 0)).2 (nI 0)).1 + 1), (L_X8_nextToken_106 mt (L_X8_nextToken_0 mt mt.2.1 mt.2.2.1) mt.2.1 (L_X8_nextToken_59 mt (L_X8_nextToken_0 mt mt.2.1 mt.2.2.1) mt.2.1 (L_X8_nextToken_0 mt mt.2.1 mt.2.2.1) (if (L_X8_nextToken_0 mt mt.2.1 mt.2.2.1) = mt.2.1 then nI 3 else nI 0)).1 (L_X8_nextToken_59 mt (L_X8_nextToken_0 mt mt.2.1 mt.2.2.1) mt.2.1 (L_X8_nextToken_0 mt mt.2.1 mt.2.2.1) (if (L_X8_nextToken_0 mt mt.2.1 mt.2.2.1) = mt.2.1 then nI 3 else nI 0)).2 (nI 0)).2.1, (mt.1 (L_X8_nextToken_106 mt (L_X8_nextToken_0 mt mt.2.1 mt.2.2.1) mt.2.1 (L_X8_nextToken_59 mt (L_X8_nextToken_0 mt mt.2.1 mt.2.2.1) mt.2.1 (L_X8_nextToken_0 mt mt.2.1 mt.2.2.1) (if (L_X8_nextToken_0 mt mt.2.1 mt.2.2.1) = mt.2.1 then nI 3 else nI 0)).1 (L_X8_nextToken_59 mt (L_X8_nextToken_0 mt mt.2.1 mt.2.2.1) mt.2.1 (L_X8_nextToken_0 mt mt.2.1 mt.2.2.1) (if (L_X8_nextToken_0 mt mt.2.1 mt.2.2.1) = mt.2.1 then nI 3 else nI 0)).2 (nI 0)).1), (L_X8_nextToken_0 mt mt.2.1 mt.2.2.1), mt.2.2.2.2.2.2) else (mt.1, mt.2.1, (L_X8_nextToken_106 mt (L_X8_nextToken_0 mt mt.2.1 mt.2.2.1) mt.2.1 (L_X8_nextToken_59 mt (L_X8_nextToken_0 mt mt.2.1 mt.2.2.1) mt.2.1 (L_X8_nextToken_0 mt mt.2.1 mt.2.2.1) (if (L_X8_nextToken_0 mt mt.2.1 mt.2.2.1) = mt.2.1 then nI 3 else nI 0)).1 (L_X8_nextToken_59 mt (L_X8_nextToken_0 mt mt.2.1 mt.2.2.1) mt.2.1 (L_X8_nextToken_0 mt mt.2.1 mt.2.2.1) (if (L_X8_nextToken_0 mt mt.2.1 mt.2.2.1) = mt.2.1 then nI 3 else nI 0)).2 (nI 0)).1, (L_X8_nextToken_106 mt (L_X8_nextToken_0 mt mt.2.1 mt.2.2.1) mt.2.1 (L_X8_nextToken_59 mt (L_X8_nextToken_0 mt mt.2.1 mt.2.2.1) mt.2.1 (L_X8_nextToken_0 mt mt.2.1 mt.2.2.1) (if (L_X8_nextToken_0 mt mt.2.1 mt.2.2.1) = mt.2.1 then nI 3 else nI 0)).1 (L_X8_nextToken_59 mt (L_X8_nextToken_0 mt mt.2.1 mt.2.2.1) mt.2.1 (L_X8_nextToken_0 mt mt.2.1 mt.2.2.1) (if (L_X8_nextToken_0 mt mt.2.1 mt.2.2.1) = mt.2.1 then nI 3 else nI 0)).2 (nI 0)).2.1, (L_X8_nextToken_106 mt (L_X8_nextToken_0 mt mt.2.1 mt.2.2.1) mt.2.1 (L_X8_nextToken_59 mt (L_X8_nextToken_0 mt mt.2.1 mt.2.2.1) mt.2.1 (L_X8_nextToken_0 mt mt.2.1 mt.2.2.1) (if (L_X8_nextToken_0 mt mt.2.1 mt.2.2.1) = mt.2.1 then nI 3 else nI 0)).1 (L_X8_nextToken_59 mt (L_X8_nextToken_0 mt mt.2.1 mt.2.2.1) mt.2.1 (L_X8_nextToken_0 mt mt.2.1 mt.2.2.1) (if (L_X8_nextToken_0 mt mt.2.1 mt.2.2.1) = mt.2.1 then nI 3 else nI 0)).2 (nI 0)).2.2, (L_X8_nextToken_0 mt mt.2.1 mt.2.2.1), mt.2.2.2.2.2.2)))
abbrev rm_X8_nextToken : Room := { frames := 1, cells := 0, slots := 0, locals := 25 }
set_option maxHeartbeats 4000000 in
set_option maxRecDepth 100000 in
theorem c_X8_nextToken (l : Launch) (D : va_G) (cI cL cZ : ClassId) (ad : Nat → Nat) (A : Nat → Prop) (to : (Nat → Int32)) (st : (Nat → Int32)) (mt : MTx) (rd : (Nat → Int32)) (un : MUn) (kp : MKp) (rw : MKp) (se : MUn)  (hmt : mtOk mt) : Met l yX8_nextToken wsX8_nextToken rm_X8_nextToken (va_Pc [.ref (ad 0)] (sR D cI cL cZ A (mW cI cL cZ ad to st mt rd un kp rw se))) (va_Qv (fun (u : MTx) => u = (f_X8_nextToken mt)) (fun (u : MTx) t => va_P D vwCl (mW cI cL cZ ad to st u rd un kp rw se) t.heap) A) 0 0 A := by
  refine Met.ofW (cc := cX8_nextToken) (maxL := 1) (ret := none) (by decide) rfl ?_
  intro p e s m args below meth c s₁ B hml hv
  obtain ⟨rfl, hP, hK, hD, hE⟩ := hv
  have hx := B.exec
  have hb := B.bytes
  have hr := B.returns
  have hts := atoms_spec (ws := wsX8_nextToken) B.pre
  have hown : s.vm.findClass RX8 = some m.cls := findClass_of_methodNamed B.named
  have hlocks := B.notSynchronized
  have hS : va_S A s.heap s.heap [] := va_S.rf
  have hl := lv_entry ([.ref (ad 0)]) (n := 1) (Nat.le_of_ble_eq_true rfl)
  rw [lg_entry_eq]
  generalize (lg_sl ([.ref (ad 0)]) ++ List.replicate (1 - (lg_sl ([.ref (ad 0)])).length) Slot.unset).toArray = ls at hl ⊢
  have hl : lv_has ls 1 [(0, .ref (ad 0))] := hl
  have hl0 := hmt.1
  have hp0 := hmt.2.1
  have hb0 := hmt.2.2
  obtain ⟨Q, hQe⟩ : ∃ Q, Q = MQ below (va_Qv (fun (u : MTx) => u = (f_X8_nextToken mt)) (fun (u : MTx) t => va_P D vwCl (mW cI cL cZ ad to st u rd un kp rw se) t.heap) A) ([.ref (ad 0)] : List Value).toArray s 0 0 A := ⟨_, rfl⟩
  show W p l e (headSpec wsX8_nextToken rm_X8_nextToken).room s m ([.ref (ad 0)] : List Value).toArray below meth c s.heap [] 0 0 (MQ below (va_Qv (fun (u : MTx) => u = (f_X8_nextToken mt)) (fun (u : MTx) t => va_P D vwCl (mW cI cL cZ ad to st u rd un kp rw se) t.heap) A) ([.ref (ad 0)] : List Value).toArray s 0 0 A) (F0 m 0 ls [])
  rw [← hQe]
  obtain ⟨T_0_1, hT_0_1⟩ : ∃ z, z = (L_X8_nextToken_0 mt mt.2.1 mt.2.2.1) := ⟨_, rfl⟩
  have hexit_0 : ∀ (H : Heap) (locs : List Loc) (ls : Array Slot), (T_0_1 ≤ mt.2.1) → va_P D vwCl (mW cI cL cZ ad to st (mt.1, mt.2.1, T_0_1, mt.2.2.2.1, mt.2.2.2.2.1, mt.2.2.2.2.2.1, mt.2.2.2.2.2.2) rd un kp rw se) H → va_S A s.heap H locs → lv_has ls 1 [(0, .ref (ad 0))] → W p l e (headSpec wsX8_nextToken rm_X8_nextToken).room s m ([.ref (ad 0)] : List Value).toArray below meth c H locs 0 0 Q (F0 m 26 ls []) := by
    intro H locs ls p0 hP hS hl
    have hD : va_D A (mW cI cL cZ ad to st (mt.1, mt.2.1, T_0_1, mt.2.2.2.1, mt.2.2.2.2.1, mt.2.2.2.2.2.1, mt.2.2.2.2.2.2) rd un kp rw se) := mW_D hD
    refine lv_aload_n hx hb dX8_nextToken_26 rfl (lv_at hl 0 rfl) ?_
    refine lv_aload_n hx hb dX8_nextToken_27 rfl (lv_at hl 0 rfl) ?_
    refine va_get (D := D) (ci := 8) (v := .int (nI T_0_1)) (C := RX8) (T := TX8) (N := 18) hx hb hts (by decide +kernel) hown hK hP 0 rfl rfl 4 (by decide) (hts (.fieldLink RX8 54 "SummitTimeModel" "place" "I") (by decide +kernel)) (fun _ h9 => h9) rfl dX8_nextToken_28 ?_
    refine va_put (D := D) (ci := 8) (v := .int (nI T_0_1)) (ty := .int) (C := RX8) (T := TX8) (N := 18) hx hb hts (by decide +kernel) tyX8 tyX8_ok nmX8 hown hK hP hD hS 0 rfl rfl 7 (by decide) (hts (.fieldLink RX8 61 "SummitTimeModel" "begins" "I") (by decide +kernel)) (fun _ h9 => h9) rfl (by decide +kernel) rfl rfl (Nat.le_of_ble_eq_true rfl) dX8_nextToken_31 (fun H locs hP hD hS => ?_)
    have hP : va_P D vwCl (mW cI cL cZ ad to st (mt.1, mt.2.1, T_0_1, mt.2.2.2.1, mt.2.2.2.2.1, T_0_1, mt.2.2.2.2.2.2) rd un kp rw se) H := hP
    have hD : va_D A (mW cI cL cZ ad to st (mt.1, mt.2.1, T_0_1, mt.2.2.2.1, mt.2.2.2.2.1, T_0_1, mt.2.2.2.2.2.2) rd un kp rw se) := hD
    refine lv_aload_n hx hb dX8_nextToken_34 rfl (lv_at hl 0 rfl) ?_
    refine lv_iconst (v := nI 0) hx hb dX8_nextToken_35 rfl ?_
    refine va_put (D := D) (ci := 8) (v := .int (nI 0)) (ty := .int) (C := RX8) (T := TX8) (N := 18) hx hb hts (by decide +kernel) tyX8 tyX8_ok nmX8 hown hK hP hD hS 0 rfl rfl 6 (by decide) (hts (.fieldLink RX8 64 "SummitTimeModel" "value" "I") (by decide +kernel)) (fun _ h9 => h9) rfl (by decide +kernel) rfl rfl (Nat.le_of_ble_eq_true rfl) dX8_nextToken_36 (fun H locs hP hD hS => ?_)
    have hP : va_P D vwCl (mW cI cL cZ ad to st (mt.1, mt.2.1, T_0_1, mt.2.2.2.1, (nI 0), T_0_1, mt.2.2.2.2.2.2) rd un kp rw se) H := hP
    have hD : va_D A (mW cI cL cZ ad to st (mt.1, mt.2.1, T_0_1, mt.2.2.2.1, (nI 0), T_0_1, mt.2.2.2.2.2.2) rd un kp rw se) := hD
    refine lv_aload_n hx hb dX8_nextToken_39 rfl (lv_at hl 0 rfl) ?_
    refine lv_aload_n hx hb dX8_nextToken_40 rfl (lv_at hl 0 rfl) ?_
    refine va_get (D := D) (ci := 8) (v := .int (nI T_0_1)) (C := RX8) (T := TX8) (N := 18) hx hb hts (by decide +kernel) hown hK hP 0 rfl rfl 4 (by decide) (hts (.fieldLink RX8 54 "SummitTimeModel" "place" "I") (by decide +kernel)) (fun _ h9 => h9) rfl dX8_nextToken_41 ?_
    refine lv_aload_n hx hb dX8_nextToken_44 rfl (lv_at hl 0 rfl) ?_
    refine va_get (D := D) (ci := 8) (v := .int (nI mt.2.1)) (C := RX8) (T := TX8) (N := 18) hx hb hts (by decide +kernel) hown hK hP 0 rfl rfl 3 (by decide) (hts (.fieldLink RX8 50 "SummitTimeModel" "letters" "I") (by decide +kernel)) (fun _ h9 => h9) rfl dX8_nextToken_45 ?_
    refine mv_phi (v := (if T_0_1 = mt.2.1 then nI 3 else nI 0)) (pcj := 56) (ls := ls) (rest' := [.ref (ad 0)]) ?_ (fun J_18 => ?_)
    · refine va_put (D := D) (ci := 8) (v := .int (if T_0_1 = mt.2.1 then nI 3 else nI 0)) (ty := .int) (C := RX8) (T := TX8) (N := 18) hx hb hts (by decide +kernel) tyX8 tyX8_ok nmX8 hown hK hP hD hS 0 rfl rfl 5 (by decide) (hts (.fieldLink RX8 67 "SummitTimeModel" "token" "I") (by decide +kernel)) (fun _ h9 => h9) rfl (by decide +kernel) rfl rfl (Nat.le_of_ble_eq_true rfl) dX8_nextToken_56 (fun H locs hP hD hS => ?_)
      have hP : va_P D vwCl (mW cI cL cZ ad to st (mt.1, mt.2.1, T_0_1, (if T_0_1 = mt.2.1 then nI 3 else nI 0), (nI 0), T_0_1, mt.2.2.2.2.2.2) rd un kp rw se) H := hP
      have hD : va_D A (mW cI cL cZ ad to st (mt.1, mt.2.1, T_0_1, (if T_0_1 = mt.2.1 then nI 3 else nI 0), (nI 0), T_0_1, mt.2.2.2.2.2.2) rd un kp rw se) := hD
      obtain ⟨T_59_2, hT_59_2⟩ : ∃ z, z = (L_X8_nextToken_59 mt T_0_1 mt.2.1 T_0_1 (if T_0_1 = mt.2.1 then nI 3 else nI 0)) := ⟨_, rfl⟩
      have hexit_59 : ∀ (H : Heap) (locs : List Loc) (ls : Array Slot), (T_59_2.1 ≤ mt.2.1) → (T_59_2.2 = 0 → T_59_2.1 < mt.2.1) → va_P D vwCl (mW cI cL cZ ad to st (mt.1, mt.2.1, T_59_2.1, T_59_2.2, (nI 0), T_0_1, mt.2.2.2.2.2.2) rd un kp rw se) H → va_S A s.heap H locs → lv_has ls 1 [(0, .ref (ad 0))] → W p l e (headSpec wsX8_nextToken rm_X8_nextToken).room s m ([.ref (ad 0)] : List Value).toArray below meth c H locs 0 0 Q (F0 m 106 ls []) := by
        intro H locs ls p1 p3 hP hS hl
        have hD : va_D A (mW cI cL cZ ad to st (mt.1, mt.2.1, T_59_2.1, T_59_2.2, (nI 0), T_0_1, mt.2.2.2.2.2.2) rd un kp rw se) := mW_D hD
        obtain ⟨T_106_3, hT_106_3⟩ : ∃ z, z = (L_X8_nextToken_106 mt T_0_1 mt.2.1 T_59_2.1 T_59_2.2 (nI 0)) := ⟨_, rfl⟩
        have hexit_106 : ∀ (H : Heap) (locs : List Loc) (ls : Array Slot), (T_106_3.1 ≤ mt.2.1) → (T_106_3.2.1 = 0 → T_106_3.1 < mt.2.1) → va_P D vwCl (mW cI cL cZ ad to st (mt.1, mt.2.1, T_106_3.1, T_106_3.2.1, T_106_3.2.2, T_0_1, mt.2.2.2.2.2.2) rd un kp rw se) H → va_S A s.heap H locs → lv_has ls 1 [(0, .ref (ad 0))] → W p l e (headSpec wsX8_nextToken rm_X8_nextToken).room s m ([.ref (ad 0)] : List Value).toArray below meth c H locs 0 0 Q (F0 m 193 ls []) := by
          intro H locs ls q1 q3 hP hS hl
          have hD : va_D A (mW cI cL cZ ad to st (mt.1, mt.2.1, T_106_3.1, T_106_3.2.1, T_106_3.2.2, T_0_1, mt.2.2.2.2.2.2) rd un kp rw se) := mW_D hD
          refine lv_aload_n hx hb dX8_nextToken_193 rfl (lv_at hl 0 rfl) ?_
          refine va_get (D := D) (ci := 8) (v := .int T_106_3.2.1) (C := RX8) (T := TX8) (N := 18) hx hb hts (by decide +kernel) hown hK hP 0 rfl rfl 5 (by decide) (hts (.fieldLink RX8 67 "SummitTimeModel" "token" "I") (by decide +kernel)) (fun _ h9 => h9) rfl dX8_nextToken_194 ?_
          refine lv_iconst (v := nI 2) hx hb dX8_nextToken_197 rfl ?_
          refine lv_icmp_ne (tgt := 221) hx hb dX8_nextToken_198 (by decide) (fun c_13 => ?_) (fun c_13 => ?_)
          · refine lv_aload_n hx hb dX8_nextToken_221 rfl (lv_at hl 0 rfl) ?_
            refine va_get (D := D) (ci := 8) (v := .int T_106_3.2.1) (C := RX8) (T := TX8) (N := 18) hx hb hts (by decide +kernel) hown hK hP 0 rfl rfl 5 (by decide) (hts (.fieldLink RX8 67 "SummitTimeModel" "token" "I") (by decide +kernel)) (fun _ h9 => h9) rfl dX8_nextToken_222 ?_
            refine lv_if_ne (tgt := 251) hx hb dX8_nextToken_225 (by decide) (fun c_14 => ?_) (fun c_14 => ?_)
            · subst hQe
              have hf : (f_X8_nextToken mt) = (mt.1, mt.2.1, T_106_3.1, T_106_3.2.1, T_106_3.2.2, T_0_1, mt.2.2.2.2.2.2) := by subst hT_106_3; subst hT_59_2; subst hT_0_1; rw [f_X8_nextToken, if_neg c_13, if_neg c_14]
              exact W.vret hx hb hr (fun t ht hW => ⟨⟨(mt.1, mt.2.1, T_106_3.1, T_106_3.2.1, T_106_3.2.2, T_0_1, mt.2.2.2.2.2.2), rfl, hf.symm, va_Pt ht hP⟩, hS.F ht⟩) hS.2.2 dX8_nextToken_251
            · have hq := q3 c_14
              refine lv_aload_n hx hb dX8_nextToken_228 rfl (lv_at hl 0 rfl) ?_
              refine lv_aload_n hx hb dX8_nextToken_229 rfl (lv_at hl 0 rfl) ?_
              refine va_get (D := D) (ci := 8) (v := .ref (ad 3)) (C := RX8) (T := TX8) (N := 18) hx hb hts (by decide +kernel) hown hK hP 0 rfl rfl 2 (by decide) (hts (.fieldLink RX8 16 "SummitTimeModel" "text" "[I") (by decide +kernel)) (fun _ h9 => h9) rfl dX8_nextToken_230 ?_
              refine lv_aload_n hx hb dX8_nextToken_233 rfl (lv_at hl 0 rfl) ?_
              refine va_get (D := D) (ci := 8) (v := .int (nI T_106_3.1)) (C := RX8) (T := TX8) (N := 18) hx hb hts (by decide +kernel) hown hK hP 0 rfl rfl 4 (by decide) (hts (.fieldLink RX8 54 "SummitTimeModel" "place" "I") (by decide +kernel)) (fun _ h9 => h9) rfl dX8_nextToken_234 ?_
              refine mv_iald (f := mt.1) hx hb hK hP 3 0 rfl rfl (by omega) (by decide) dX8_nextToken_237 ?_
              refine va_put (D := D) (ci := 8) (v := .int (mt.1 T_106_3.1)) (ty := .int) (C := RX8) (T := TX8) (N := 18) hx hb hts (by decide +kernel) tyX8 tyX8_ok nmX8 hown hK hP hD hS 0 rfl rfl 6 (by decide) (hts (.fieldLink RX8 64 "SummitTimeModel" "value" "I") (by decide +kernel)) (fun _ h9 => h9) rfl (by decide +kernel) rfl rfl (Nat.le_of_ble_eq_true rfl) dX8_nextToken_238 (fun H locs hP hD hS => ?_)
              have hP : va_P D vwCl (mW cI cL cZ ad to st (mt.1, mt.2.1, T_106_3.1, T_106_3.2.1, (mt.1 T_106_3.1), T_0_1, mt.2.2.2.2.2.2) rd un kp rw se) H := hP
              have hD : va_D A (mW cI cL cZ ad to st (mt.1, mt.2.1, T_106_3.1, T_106_3.2.1, (mt.1 T_106_3.1), T_0_1, mt.2.2.2.2.2.2) rd un kp rw se) := hD
              refine lv_aload_n hx hb dX8_nextToken_241 rfl (lv_at hl 0 rfl) ?_
              refine lv_dup hx hb dX8_nextToken_242 rfl ?_
              refine va_get (D := D) (ci := 8) (v := .int (nI T_106_3.1)) (C := RX8) (T := TX8) (N := 18) hx hb hts (by decide +kernel) hown hK hP 0 rfl rfl 4 (by decide) (hts (.fieldLink RX8 54 "SummitTimeModel" "place" "I") (by decide +kernel)) (fun _ h9 => h9) rfl dX8_nextToken_243 ?_
              refine lv_iconst (v := nI 1) hx hb dX8_nextToken_246 rfl ?_
              refine mv_iadd hx hb dX8_nextToken_247 ?_
              refine va_put (D := D) (ci := 8) (v := .int (nI (T_106_3.1 + 1))) (ty := .int) (C := RX8) (T := TX8) (N := 18) hx hb hts (by decide +kernel) tyX8 tyX8_ok nmX8 hown hK hP hD hS 0 rfl rfl 4 (by decide) (hts (.fieldLink RX8 54 "SummitTimeModel" "place" "I") (by decide +kernel)) (fun _ h9 => h9) rfl (by decide +kernel) rfl rfl (Nat.le_of_ble_eq_true rfl) dX8_nextToken_248 (fun H locs hP hD hS => ?_)
              have hP : va_P D vwCl (mW cI cL cZ ad to st (mt.1, mt.2.1, (T_106_3.1 + 1), T_106_3.2.1, (mt.1 T_106_3.1), T_0_1, mt.2.2.2.2.2.2) rd un kp rw se) H := hP
              have hD : va_D A (mW cI cL cZ ad to st (mt.1, mt.2.1, (T_106_3.1 + 1), T_106_3.2.1, (mt.1 T_106_3.1), T_0_1, mt.2.2.2.2.2.2) rd un kp rw se) := hD
              subst hQe
              have hf : (f_X8_nextToken mt) = (mt.1, mt.2.1, (T_106_3.1 + 1), T_106_3.2.1, (mt.1 T_106_3.1), T_0_1, mt.2.2.2.2.2.2) := by subst hT_106_3; subst hT_59_2; subst hT_0_1; rw [f_X8_nextToken, if_neg c_13, if_pos c_14]
              exact W.vret hx hb hr (fun t ht hW => ⟨⟨(mt.1, mt.2.1, (T_106_3.1 + 1), T_106_3.2.1, (mt.1 T_106_3.1), T_0_1, mt.2.2.2.2.2.2), rfl, hf.symm, va_Pt ht hP⟩, hS.F ht⟩) hS.2.2 dX8_nextToken_251
          · refine lv_aload_n hx hb dX8_nextToken_201 rfl (lv_at hl 0 rfl) ?_
            refine va_get (D := D) (ci := 8) (v := .int (nI T_106_3.1)) (C := RX8) (T := TX8) (N := 18) hx hb hts (by decide +kernel) hown hK hP 0 rfl rfl 4 (by decide) (hts (.fieldLink RX8 54 "SummitTimeModel" "place" "I") (by decide +kernel)) (fun _ h9 => h9) rfl dX8_nextToken_202 ?_
            refine lv_aload_n hx hb dX8_nextToken_205 rfl (lv_at hl 0 rfl) ?_
            refine va_get (D := D) (ci := 8) (v := .int (nI T_0_1)) (C := RX8) (T := TX8) (N := 18) hx hb hts (by decide +kernel) hown hK hP 0 rfl rfl 7 (by decide) (hts (.fieldLink RX8 61 "SummitTimeModel" "begins" "I") (by decide +kernel)) (fun _ h9 => h9) rfl dX8_nextToken_206 ?_
            refine lv_isub hx hb dX8_nextToken_209 ?_
            refine lv_iconst (v := nI 2) hx hb dX8_nextToken_210 rfl ?_
            refine lv_icmp_le (tgt := 221) hx hb dX8_nextToken_211 (by decide) (fun c_15 => ?_) (fun c_15 => ?_)
            · refine lv_aload_n hx hb dX8_nextToken_221 rfl (lv_at hl 0 rfl) ?_
              refine va_get (D := D) (ci := 8) (v := .int T_106_3.2.1) (C := RX8) (T := TX8) (N := 18) hx hb hts (by decide +kernel) hown hK hP 0 rfl rfl 5 (by decide) (hts (.fieldLink RX8 67 "SummitTimeModel" "token" "I") (by decide +kernel)) (fun _ h9 => h9) rfl dX8_nextToken_222 ?_
              refine lv_if_ne (tgt := 251) hx hb dX8_nextToken_225 (by decide) (fun c_16 => ?_) (fun c_16 => ?_)
              · subst hQe
                have hf : (f_X8_nextToken mt) = (mt.1, mt.2.1, T_106_3.1, T_106_3.2.1, T_106_3.2.2, T_0_1, mt.2.2.2.2.2.2) := by subst hT_106_3; subst hT_59_2; subst hT_0_1; rw [f_X8_nextToken, if_pos c_13, if_pos c_15, if_neg c_16]
                exact W.vret hx hb hr (fun t ht hW => ⟨⟨(mt.1, mt.2.1, T_106_3.1, T_106_3.2.1, T_106_3.2.2, T_0_1, mt.2.2.2.2.2.2), rfl, hf.symm, va_Pt ht hP⟩, hS.F ht⟩) hS.2.2 dX8_nextToken_251
              · have hq := q3 c_16
                refine lv_aload_n hx hb dX8_nextToken_228 rfl (lv_at hl 0 rfl) ?_
                refine lv_aload_n hx hb dX8_nextToken_229 rfl (lv_at hl 0 rfl) ?_
                refine va_get (D := D) (ci := 8) (v := .ref (ad 3)) (C := RX8) (T := TX8) (N := 18) hx hb hts (by decide +kernel) hown hK hP 0 rfl rfl 2 (by decide) (hts (.fieldLink RX8 16 "SummitTimeModel" "text" "[I") (by decide +kernel)) (fun _ h9 => h9) rfl dX8_nextToken_230 ?_
                refine lv_aload_n hx hb dX8_nextToken_233 rfl (lv_at hl 0 rfl) ?_
                refine va_get (D := D) (ci := 8) (v := .int (nI T_106_3.1)) (C := RX8) (T := TX8) (N := 18) hx hb hts (by decide +kernel) hown hK hP 0 rfl rfl 4 (by decide) (hts (.fieldLink RX8 54 "SummitTimeModel" "place" "I") (by decide +kernel)) (fun _ h9 => h9) rfl dX8_nextToken_234 ?_
                refine mv_iald (f := mt.1) hx hb hK hP 3 0 rfl rfl (by omega) (by decide) dX8_nextToken_237 ?_
                refine va_put (D := D) (ci := 8) (v := .int (mt.1 T_106_3.1)) (ty := .int) (C := RX8) (T := TX8) (N := 18) hx hb hts (by decide +kernel) tyX8 tyX8_ok nmX8 hown hK hP hD hS 0 rfl rfl 6 (by decide) (hts (.fieldLink RX8 64 "SummitTimeModel" "value" "I") (by decide +kernel)) (fun _ h9 => h9) rfl (by decide +kernel) rfl rfl (Nat.le_of_ble_eq_true rfl) dX8_nextToken_238 (fun H locs hP hD hS => ?_)
                have hP : va_P D vwCl (mW cI cL cZ ad to st (mt.1, mt.2.1, T_106_3.1, T_106_3.2.1, (mt.1 T_106_3.1), T_0_1, mt.2.2.2.2.2.2) rd un kp rw se) H := hP
                have hD : va_D A (mW cI cL cZ ad to st (mt.1, mt.2.1, T_106_3.1, T_106_3.2.1, (mt.1 T_106_3.1), T_0_1, mt.2.2.2.2.2.2) rd un kp rw se) := hD
                refine lv_aload_n hx hb dX8_nextToken_241 rfl (lv_at hl 0 rfl) ?_
                refine lv_dup hx hb dX8_nextToken_242 rfl ?_
                refine va_get (D := D) (ci := 8) (v := .int (nI T_106_3.1)) (C := RX8) (T := TX8) (N := 18) hx hb hts (by decide +kernel) hown hK hP 0 rfl rfl 4 (by decide) (hts (.fieldLink RX8 54 "SummitTimeModel" "place" "I") (by decide +kernel)) (fun _ h9 => h9) rfl dX8_nextToken_243 ?_
                refine lv_iconst (v := nI 1) hx hb dX8_nextToken_246 rfl ?_
                refine mv_iadd hx hb dX8_nextToken_247 ?_
                refine va_put (D := D) (ci := 8) (v := .int (nI (T_106_3.1 + 1))) (ty := .int) (C := RX8) (T := TX8) (N := 18) hx hb hts (by decide +kernel) tyX8 tyX8_ok nmX8 hown hK hP hD hS 0 rfl rfl 4 (by decide) (hts (.fieldLink RX8 54 "SummitTimeModel" "place" "I") (by decide +kernel)) (fun _ h9 => h9) rfl (by decide +kernel) rfl rfl (Nat.le_of_ble_eq_true rfl) dX8_nextToken_248 (fun H locs hP hD hS => ?_)
                have hP : va_P D vwCl (mW cI cL cZ ad to st (mt.1, mt.2.1, (T_106_3.1 + 1), T_106_3.2.1, (mt.1 T_106_3.1), T_0_1, mt.2.2.2.2.2.2) rd un kp rw se) H := hP
                have hD : va_D A (mW cI cL cZ ad to st (mt.1, mt.2.1, (T_106_3.1 + 1), T_106_3.2.1, (mt.1 T_106_3.1), T_0_1, mt.2.2.2.2.2.2) rd un kp rw se) := hD
                subst hQe
                have hf : (f_X8_nextToken mt) = (mt.1, mt.2.1, (T_106_3.1 + 1), T_106_3.2.1, (mt.1 T_106_3.1), T_0_1, mt.2.2.2.2.2.2) := by subst hT_106_3; subst hT_59_2; subst hT_0_1; rw [f_X8_nextToken, if_pos c_13, if_pos c_15, if_pos c_16]
                exact W.vret hx hb hr (fun t ht hW => ⟨⟨(mt.1, mt.2.1, (T_106_3.1 + 1), T_106_3.2.1, (mt.1 T_106_3.1), T_0_1, mt.2.2.2.2.2.2), rfl, hf.symm, va_Pt ht hP⟩, hS.F ht⟩) hS.2.2 dX8_nextToken_251
            · refine lv_aload_n hx hb dX8_nextToken_214 rfl (lv_at hl 0 rfl) ?_
              refine lv_sipush (v := nI 999) hx hb dX8_nextToken_215 rfl ?_
              refine va_put (D := D) (ci := 8) (v := .int (nI 999)) (ty := .int) (C := RX8) (T := TX8) (N := 18) hx hb hts (by decide +kernel) tyX8 tyX8_ok nmX8 hown hK hP hD hS 0 rfl rfl 6 (by decide) (hts (.fieldLink RX8 64 "SummitTimeModel" "value" "I") (by decide +kernel)) (fun _ h9 => h9) rfl (by decide +kernel) rfl rfl (Nat.le_of_ble_eq_true rfl) dX8_nextToken_218 (fun H locs hP hD hS => ?_)
              have hP : va_P D vwCl (mW cI cL cZ ad to st (mt.1, mt.2.1, T_106_3.1, T_106_3.2.1, (nI 999), T_0_1, mt.2.2.2.2.2.2) rd un kp rw se) H := hP
              have hD : va_D A (mW cI cL cZ ad to st (mt.1, mt.2.1, T_106_3.1, T_106_3.2.1, (nI 999), T_0_1, mt.2.2.2.2.2.2) rd un kp rw se) := hD
              refine lv_aload_n hx hb dX8_nextToken_221 rfl (lv_at hl 0 rfl) ?_
              refine va_get (D := D) (ci := 8) (v := .int T_106_3.2.1) (C := RX8) (T := TX8) (N := 18) hx hb hts (by decide +kernel) hown hK hP 0 rfl rfl 5 (by decide) (hts (.fieldLink RX8 67 "SummitTimeModel" "token" "I") (by decide +kernel)) (fun _ h9 => h9) rfl dX8_nextToken_222 ?_
              refine lv_if_ne (tgt := 251) hx hb dX8_nextToken_225 (by decide) (fun c_17 => ?_) (fun c_17 => ?_)
              · subst hQe
                have hf : (f_X8_nextToken mt) = (mt.1, mt.2.1, T_106_3.1, T_106_3.2.1, (nI 999), T_0_1, mt.2.2.2.2.2.2) := by subst hT_106_3; subst hT_59_2; subst hT_0_1; rw [f_X8_nextToken, if_pos c_13, if_neg c_15, if_neg c_17]
                exact W.vret hx hb hr (fun t ht hW => ⟨⟨(mt.1, mt.2.1, T_106_3.1, T_106_3.2.1, (nI 999), T_0_1, mt.2.2.2.2.2.2), rfl, hf.symm, va_Pt ht hP⟩, hS.F ht⟩) hS.2.2 dX8_nextToken_251
              · have hq := q3 c_17
                refine lv_aload_n hx hb dX8_nextToken_228 rfl (lv_at hl 0 rfl) ?_
                refine lv_aload_n hx hb dX8_nextToken_229 rfl (lv_at hl 0 rfl) ?_
                refine va_get (D := D) (ci := 8) (v := .ref (ad 3)) (C := RX8) (T := TX8) (N := 18) hx hb hts (by decide +kernel) hown hK hP 0 rfl rfl 2 (by decide) (hts (.fieldLink RX8 16 "SummitTimeModel" "text" "[I") (by decide +kernel)) (fun _ h9 => h9) rfl dX8_nextToken_230 ?_
                refine lv_aload_n hx hb dX8_nextToken_233 rfl (lv_at hl 0 rfl) ?_
                refine va_get (D := D) (ci := 8) (v := .int (nI T_106_3.1)) (C := RX8) (T := TX8) (N := 18) hx hb hts (by decide +kernel) hown hK hP 0 rfl rfl 4 (by decide) (hts (.fieldLink RX8 54 "SummitTimeModel" "place" "I") (by decide +kernel)) (fun _ h9 => h9) rfl dX8_nextToken_234 ?_
                refine mv_iald (f := mt.1) hx hb hK hP 3 0 rfl rfl (by omega) (by decide) dX8_nextToken_237 ?_
                refine va_put (D := D) (ci := 8) (v := .int (mt.1 T_106_3.1)) (ty := .int) (C := RX8) (T := TX8) (N := 18) hx hb hts (by decide +kernel) tyX8 tyX8_ok nmX8 hown hK hP hD hS 0 rfl rfl 6 (by decide) (hts (.fieldLink RX8 64 "SummitTimeModel" "value" "I") (by decide +kernel)) (fun _ h9 => h9) rfl (by decide +kernel) rfl rfl (Nat.le_of_ble_eq_true rfl) dX8_nextToken_238 (fun H locs hP hD hS => ?_)
                have hP : va_P D vwCl (mW cI cL cZ ad to st (mt.1, mt.2.1, T_106_3.1, T_106_3.2.1, (mt.1 T_106_3.1), T_0_1, mt.2.2.2.2.2.2) rd un kp rw se) H := hP
                have hD : va_D A (mW cI cL cZ ad to st (mt.1, mt.2.1, T_106_3.1, T_106_3.2.1, (mt.1 T_106_3.1), T_0_1, mt.2.2.2.2.2.2) rd un kp rw se) := hD
                refine lv_aload_n hx hb dX8_nextToken_241 rfl (lv_at hl 0 rfl) ?_
                refine lv_dup hx hb dX8_nextToken_242 rfl ?_
                refine va_get (D := D) (ci := 8) (v := .int (nI T_106_3.1)) (C := RX8) (T := TX8) (N := 18) hx hb hts (by decide +kernel) hown hK hP 0 rfl rfl 4 (by decide) (hts (.fieldLink RX8 54 "SummitTimeModel" "place" "I") (by decide +kernel)) (fun _ h9 => h9) rfl dX8_nextToken_243 ?_
                refine lv_iconst (v := nI 1) hx hb dX8_nextToken_246 rfl ?_
                refine mv_iadd hx hb dX8_nextToken_247 ?_
                refine va_put (D := D) (ci := 8) (v := .int (nI (T_106_3.1 + 1))) (ty := .int) (C := RX8) (T := TX8) (N := 18) hx hb hts (by decide +kernel) tyX8 tyX8_ok nmX8 hown hK hP hD hS 0 rfl rfl 4 (by decide) (hts (.fieldLink RX8 54 "SummitTimeModel" "place" "I") (by decide +kernel)) (fun _ h9 => h9) rfl (by decide +kernel) rfl rfl (Nat.le_of_ble_eq_true rfl) dX8_nextToken_248 (fun H locs hP hD hS => ?_)
                have hP : va_P D vwCl (mW cI cL cZ ad to st (mt.1, mt.2.1, (T_106_3.1 + 1), T_106_3.2.1, (mt.1 T_106_3.1), T_0_1, mt.2.2.2.2.2.2) rd un kp rw se) H := hP
                have hD : va_D A (mW cI cL cZ ad to st (mt.1, mt.2.1, (T_106_3.1 + 1), T_106_3.2.1, (mt.1 T_106_3.1), T_0_1, mt.2.2.2.2.2.2) rd un kp rw se) := hD
                subst hQe
                have hf : (f_X8_nextToken mt) = (mt.1, mt.2.1, (T_106_3.1 + 1), T_106_3.2.1, (mt.1 T_106_3.1), T_0_1, mt.2.2.2.2.2.2) := by subst hT_106_3; subst hT_59_2; subst hT_0_1; rw [f_X8_nextToken, if_pos c_13, if_neg c_15, if_pos c_17]
                exact W.vret hx hb hr (fun t ht hW => ⟨⟨(mt.1, mt.2.1, (T_106_3.1 + 1), T_106_3.2.1, (mt.1 T_106_3.1), T_0_1, mt.2.2.2.2.2.2), rfl, hf.symm, va_Pt ht hP⟩, hS.F ht⟩) hS.2.2 dX8_nextToken_251
        have loop_106 : ∀ (n_106 : Nat) (wmt2_106 : Nat) (wmt3_106 : Int32) (wmt4_106 : Int32), (mt.2.1 ≤ wmt2_106 + n_106) → (wmt2_106 ≤ mt.2.1) → (wmt3_106 = 0 → wmt2_106 < mt.2.1) → L_X8_nextToken_106 mt T_0_1 n_106 wmt2_106 wmt3_106 wmt4_106 = T_106_3 → ∀ (H : Heap) (locs : List Loc) (ls : Array Slot), va_P D vwCl (mW cI cL cZ ad to st (mt.1, mt.2.1, wmt2_106, wmt3_106, wmt4_106, T_0_1, mt.2.2.2.2.2.2) rd un kp rw se) H → va_S A s.heap H locs → lv_has ls 1 [(0, .ref (ad 0))] → W p l e (headSpec wsX8_nextToken rm_X8_nextToken).room s m ([.ref (ad 0)] : List Value).toArray below meth c H locs 0 0 Q (F0 m 106 ls []) := by
          intro n_106
          induction n_106 with
          | zero =>
            intro wmt2_106 wmt3_106 wmt4_106 j0 j1 j3 hL_106 H locs ls hP hS hl
            have hD : va_D A (mW cI cL cZ ad to st (mt.1, mt.2.1, wmt2_106, wmt3_106, wmt4_106, T_0_1, mt.2.2.2.2.2.2) rd un kp rw se) := mW_D hD
            refine lv_aload_n hx hb dX8_nextToken_106 rfl (lv_at hl 0 rfl) ?_
            refine va_get (D := D) (ci := 8) (v := .int wmt3_106) (C := RX8) (T := TX8) (N := 18) hx hb hts (by decide +kernel) hown hK hP 0 rfl rfl 5 (by decide) (hts (.fieldLink RX8 67 "SummitTimeModel" "token" "I") (by decide +kernel)) (fun _ h9 => h9) rfl dX8_nextToken_107 ?_
            refine lv_iconst (v := nI 1) hx hb dX8_nextToken_110 rfl ?_
            refine lv_icmp_eq (tgt := 193) hx hb dX8_nextToken_111 (by decide) (fun c_11 => ?_) (fun c_11 => ?_)
            · have e9 : T_106_3 = (wmt2_106, wmt3_106, wmt4_106) := by rw [← hL_106, L_X8_nextToken_106, if_pos c_11]
              have hq := hexit_106
              rw [e9] at hq
              exact hq _ _ ls (show wmt2_106 ≤ mt.2.1 from j1) (show wmt3_106 = 0 → wmt2_106 < mt.2.1 from j3) hP hS (lv_sub hl [0] rfl)
            · refine lv_aload_n hx hb dX8_nextToken_114 rfl (lv_at hl 0 rfl) ?_
              refine lv_aload_n hx hb dX8_nextToken_115 rfl (lv_at hl 0 rfl) ?_
              refine va_get (D := D) (ci := 8) (v := .int (nI wmt2_106)) (C := RX8) (T := TX8) (N := 18) hx hb hts (by decide +kernel) hown hK hP 0 rfl rfl 4 (by decide) (hts (.fieldLink RX8 54 "SummitTimeModel" "place" "I") (by decide +kernel)) (fun _ h9 => h9) rfl dX8_nextToken_116 ?_
              refine vp_callSi (va_Run.run (va_runV (As := [.int (nI wmt2_106)]) (rest := []) ⟨hx, hb, hml, hown, hts⟩ (c_X8_letterAt l D cI cL cZ ad A to st (mt.1, mt.2.1, wmt2_106, wmt3_106, wmt4_106, T_0_1, mt.2.2.2.2.2.2) rd un kp rw se wmt2_106 (by first | assumption | omega) (by first | assumption | omega)) (cwV 1 hts gX8_nextToken_X8_letterAt rfl rfl rfl (by decide +kernel) ⟨Nat.le_of_ble_eq_true rfl, Nat.le_of_ble_eq_true rfl⟩) ⟨sR_fb, va_recv hK hP (ci := 8) (q0 := 0) rfl rfl, sR_at hP hK hD hE⟩ rfl rfl hl.1 rfl (lv_room (Nat.le_of_ble_eq_true rfl)) dX8_nextToken_119 ⟨Nat.zero_le _, Nat.zero_le _⟩)) (fun r hr => ?_)
              subst hr
              refine lv_i2l hx hb dX8_nextToken_122 rfl ?_
              refine lv_ldc2 (v := (48)) hx hb hown (hts (.constantLong RX8 74 (48)) (by decide +kernel)) dX8_nextToken_123 ?_
              refine lv_ldc2 (v := (57)) hx hb hown (hts (.constantLong RX8 76 (57)) (by decide +kernel)) dX8_nextToken_126 ?_
              refine vp_callSi (va_Run.run (va_runS (As := [.long ((f_X8_letterAt (mt.1, mt.2.1, wmt2_106, wmt3_106, wmt4_106, T_0_1, mt.2.2.2.2.2.2) wmt2_106).toInt64), .long (48 : Int64), .long (57 : Int64)]) (rest := []) ⟨hx, hb, hml, hown, hts⟩ (c_X8_in l ((f_X8_letterAt (mt.1, mt.2.1, wmt2_106, wmt3_106, wmt4_106, T_0_1, mt.2.2.2.2.2.2) wmt2_106).toInt64) (48 : Int64) (57 : Int64) ) (va_cwS 3 hts gX8_nextToken_X8_in rfl rfl rfl (by decide +kernel) ⟨Nat.le_of_ble_eq_true rfl, Nat.le_of_ble_eq_true rfl⟩) ⟨pR_fb, pR_at⟩ rfl rfl hl.1 rfl (lv_room (Nat.le_of_ble_eq_true rfl)) dX8_nextToken_129 ⟨Nat.zero_le _, Nat.zero_le _⟩)) (fun r hr => ?_)
              subst hr
              refine lv_if_eq (tgt := 193) hx hb dX8_nextToken_132 (by decide) (fun c_12 => ?_) (fun c_12 => (absurd (show wmt2_106 < mt.2.1 from la_in c_12 (by decide)) (by omega)))
              have e9 : T_106_3 = (wmt2_106, wmt3_106, wmt4_106) := by rw [← hL_106, L_X8_nextToken_106, if_neg c_11]
              have hq := hexit_106
              rw [e9] at hq
              exact hq _ _ ls (show wmt2_106 ≤ mt.2.1 from j1) (show wmt3_106 = 0 → wmt2_106 < mt.2.1 from j3) hP hS (lv_sub hl [0] rfl)
          | succ n_106 ih_106 =>
            intro wmt2_106 wmt3_106 wmt4_106 j0 j1 j3 hL_106 H locs ls hP hS hl
            have hD : va_D A (mW cI cL cZ ad to st (mt.1, mt.2.1, wmt2_106, wmt3_106, wmt4_106, T_0_1, mt.2.2.2.2.2.2) rd un kp rw se) := mW_D hD
            refine lv_aload_n hx hb dX8_nextToken_106 rfl (lv_at hl 0 rfl) ?_
            refine va_get (D := D) (ci := 8) (v := .int wmt3_106) (C := RX8) (T := TX8) (N := 18) hx hb hts (by decide +kernel) hown hK hP 0 rfl rfl 5 (by decide) (hts (.fieldLink RX8 67 "SummitTimeModel" "token" "I") (by decide +kernel)) (fun _ h9 => h9) rfl dX8_nextToken_107 ?_
            refine lv_iconst (v := nI 1) hx hb dX8_nextToken_110 rfl ?_
            refine lv_icmp_eq (tgt := 193) hx hb dX8_nextToken_111 (by decide) (fun c_7 => ?_) (fun c_7 => ?_)
            · have e9 : T_106_3 = (wmt2_106, wmt3_106, wmt4_106) := by rw [← hL_106, L_X8_nextToken_106, if_pos c_7]
              have hq := hexit_106
              rw [e9] at hq
              exact hq _ _ ls (show wmt2_106 ≤ mt.2.1 from j1) (show wmt3_106 = 0 → wmt2_106 < mt.2.1 from j3) hP hS (lv_sub hl [0] rfl)
            · refine lv_aload_n hx hb dX8_nextToken_114 rfl (lv_at hl 0 rfl) ?_
              refine lv_aload_n hx hb dX8_nextToken_115 rfl (lv_at hl 0 rfl) ?_
              refine va_get (D := D) (ci := 8) (v := .int (nI wmt2_106)) (C := RX8) (T := TX8) (N := 18) hx hb hts (by decide +kernel) hown hK hP 0 rfl rfl 4 (by decide) (hts (.fieldLink RX8 54 "SummitTimeModel" "place" "I") (by decide +kernel)) (fun _ h9 => h9) rfl dX8_nextToken_116 ?_
              refine vp_callSi (va_Run.run (va_runV (As := [.int (nI wmt2_106)]) (rest := []) ⟨hx, hb, hml, hown, hts⟩ (c_X8_letterAt l D cI cL cZ ad A to st (mt.1, mt.2.1, wmt2_106, wmt3_106, wmt4_106, T_0_1, mt.2.2.2.2.2.2) rd un kp rw se wmt2_106 (by first | assumption | omega) (by first | assumption | omega)) (cwV 1 hts gX8_nextToken_X8_letterAt rfl rfl rfl (by decide +kernel) ⟨Nat.le_of_ble_eq_true rfl, Nat.le_of_ble_eq_true rfl⟩) ⟨sR_fb, va_recv hK hP (ci := 8) (q0 := 0) rfl rfl, sR_at hP hK hD hE⟩ rfl rfl hl.1 rfl (lv_room (Nat.le_of_ble_eq_true rfl)) dX8_nextToken_119 ⟨Nat.zero_le _, Nat.zero_le _⟩)) (fun r hr => ?_)
              subst hr
              refine lv_i2l hx hb dX8_nextToken_122 rfl ?_
              refine lv_ldc2 (v := (48)) hx hb hown (hts (.constantLong RX8 74 (48)) (by decide +kernel)) dX8_nextToken_123 ?_
              refine lv_ldc2 (v := (57)) hx hb hown (hts (.constantLong RX8 76 (57)) (by decide +kernel)) dX8_nextToken_126 ?_
              refine vp_callSi (va_Run.run (va_runS (As := [.long ((f_X8_letterAt (mt.1, mt.2.1, wmt2_106, wmt3_106, wmt4_106, T_0_1, mt.2.2.2.2.2.2) wmt2_106).toInt64), .long (48 : Int64), .long (57 : Int64)]) (rest := []) ⟨hx, hb, hml, hown, hts⟩ (c_X8_in l ((f_X8_letterAt (mt.1, mt.2.1, wmt2_106, wmt3_106, wmt4_106, T_0_1, mt.2.2.2.2.2.2) wmt2_106).toInt64) (48 : Int64) (57 : Int64) ) (va_cwS 3 hts gX8_nextToken_X8_in rfl rfl rfl (by decide +kernel) ⟨Nat.le_of_ble_eq_true rfl, Nat.le_of_ble_eq_true rfl⟩) ⟨pR_fb, pR_at⟩ rfl rfl hl.1 rfl (lv_room (Nat.le_of_ble_eq_true rfl)) dX8_nextToken_129 ⟨Nat.zero_le _, Nat.zero_le _⟩)) (fun r hr => ?_)
              subst hr
              refine lv_if_eq (tgt := 193) hx hb dX8_nextToken_132 (by decide) (fun c_8 => ?_) (fun c_8 => ?_)
              · have e9 : T_106_3 = (wmt2_106, wmt3_106, wmt4_106) := by rw [← hL_106, L_X8_nextToken_106, if_neg c_7, if_pos c_8]
                have hq := hexit_106
                rw [e9] at hq
                exact hq _ _ ls (show wmt2_106 ≤ mt.2.1 from j1) (show wmt3_106 = 0 → wmt2_106 < mt.2.1 from j3) hP hS (lv_sub hl [0] rfl)
              · have hq : wmt2_106 < mt.2.1 := la_in c_8 (by decide)
                refine lv_aload_n hx hb dX8_nextToken_135 rfl (lv_at hl 0 rfl) ?_
                refine lv_aload_n hx hb dX8_nextToken_136 rfl (lv_at hl 0 rfl) ?_
                refine va_get (D := D) (ci := 8) (v := .int wmt4_106) (C := RX8) (T := TX8) (N := 18) hx hb hts (by decide +kernel) hown hK hP 0 rfl rfl 6 (by decide) (hts (.fieldLink RX8 64 "SummitTimeModel" "value" "I") (by decide +kernel)) (fun _ h9 => h9) rfl dX8_nextToken_137 ?_
                refine lv_bipush (v := nI 99) hx hb dX8_nextToken_140 rfl ?_
                refine mv_phi (v := (if wmt4_106 ≤ nI 99 then ((((nI 10) * wmt4_106) + (mt.1 wmt2_106)) - (nI 48)) else wmt4_106)) (pcj := 172) (ls := ls) (rest' := [.ref (ad 0)]) ?_ (fun J_9 => ?_)
                · refine va_put (D := D) (ci := 8) (v := .int (if wmt4_106 ≤ nI 99 then ((((nI 10) * wmt4_106) + (mt.1 wmt2_106)) - (nI 48)) else wmt4_106)) (ty := .int) (C := RX8) (T := TX8) (N := 18) hx hb hts (by decide +kernel) tyX8 tyX8_ok nmX8 hown hK hP hD hS 0 rfl rfl 6 (by decide) (hts (.fieldLink RX8 64 "SummitTimeModel" "value" "I") (by decide +kernel)) (fun _ h9 => h9) rfl (by decide +kernel) rfl rfl (Nat.le_of_ble_eq_true rfl) dX8_nextToken_172 (fun H locs hP hD hS => ?_)
                  have hP : va_P D vwCl (mW cI cL cZ ad to st (mt.1, mt.2.1, wmt2_106, wmt3_106, (if wmt4_106 ≤ nI 99 then ((((nI 10) * wmt4_106) + (mt.1 wmt2_106)) - (nI 48)) else wmt4_106), T_0_1, mt.2.2.2.2.2.2) rd un kp rw se) H := hP
                  have hD : va_D A (mW cI cL cZ ad to st (mt.1, mt.2.1, wmt2_106, wmt3_106, (if wmt4_106 ≤ nI 99 then ((((nI 10) * wmt4_106) + (mt.1 wmt2_106)) - (nI 48)) else wmt4_106), T_0_1, mt.2.2.2.2.2.2) rd un kp rw se) := hD
                  refine lv_aload_n hx hb dX8_nextToken_175 rfl (lv_at hl 0 rfl) ?_
                  refine lv_iconst (v := nI 2) hx hb dX8_nextToken_176 rfl ?_
                  refine va_put (D := D) (ci := 8) (v := .int (nI 2)) (ty := .int) (C := RX8) (T := TX8) (N := 18) hx hb hts (by decide +kernel) tyX8 tyX8_ok nmX8 hown hK hP hD hS 0 rfl rfl 5 (by decide) (hts (.fieldLink RX8 67 "SummitTimeModel" "token" "I") (by decide +kernel)) (fun _ h9 => h9) rfl (by decide +kernel) rfl rfl (Nat.le_of_ble_eq_true rfl) dX8_nextToken_177 (fun H locs hP hD hS => ?_)
                  have hP : va_P D vwCl (mW cI cL cZ ad to st (mt.1, mt.2.1, wmt2_106, (nI 2), (if wmt4_106 ≤ nI 99 then ((((nI 10) * wmt4_106) + (mt.1 wmt2_106)) - (nI 48)) else wmt4_106), T_0_1, mt.2.2.2.2.2.2) rd un kp rw se) H := hP
                  have hD : va_D A (mW cI cL cZ ad to st (mt.1, mt.2.1, wmt2_106, (nI 2), (if wmt4_106 ≤ nI 99 then ((((nI 10) * wmt4_106) + (mt.1 wmt2_106)) - (nI 48)) else wmt4_106), T_0_1, mt.2.2.2.2.2.2) rd un kp rw se) := hD
                  refine lv_aload_n hx hb dX8_nextToken_180 rfl (lv_at hl 0 rfl) ?_
                  refine lv_dup hx hb dX8_nextToken_181 rfl ?_
                  refine va_get (D := D) (ci := 8) (v := .int (nI wmt2_106)) (C := RX8) (T := TX8) (N := 18) hx hb hts (by decide +kernel) hown hK hP 0 rfl rfl 4 (by decide) (hts (.fieldLink RX8 54 "SummitTimeModel" "place" "I") (by decide +kernel)) (fun _ h9 => h9) rfl dX8_nextToken_182 ?_
                  refine lv_iconst (v := nI 1) hx hb dX8_nextToken_185 rfl ?_
                  refine mv_iadd hx hb dX8_nextToken_186 ?_
                  refine va_put (D := D) (ci := 8) (v := .int (nI (wmt2_106 + 1))) (ty := .int) (C := RX8) (T := TX8) (N := 18) hx hb hts (by decide +kernel) tyX8 tyX8_ok nmX8 hown hK hP hD hS 0 rfl rfl 4 (by decide) (hts (.fieldLink RX8 54 "SummitTimeModel" "place" "I") (by decide +kernel)) (fun _ h9 => h9) rfl (by decide +kernel) rfl rfl (Nat.le_of_ble_eq_true rfl) dX8_nextToken_187 (fun H locs hP hD hS => ?_)
                  have hP : va_P D vwCl (mW cI cL cZ ad to st (mt.1, mt.2.1, (wmt2_106 + 1), (nI 2), (if wmt4_106 ≤ nI 99 then ((((nI 10) * wmt4_106) + (mt.1 wmt2_106)) - (nI 48)) else wmt4_106), T_0_1, mt.2.2.2.2.2.2) rd un kp rw se) H := hP
                  have hD : va_D A (mW cI cL cZ ad to st (mt.1, mt.2.1, (wmt2_106 + 1), (nI 2), (if wmt4_106 ≤ nI 99 then ((((nI 10) * wmt4_106) + (mt.1 wmt2_106)) - (nI 48)) else wmt4_106), T_0_1, mt.2.2.2.2.2.2) rd un kp rw se) := hD
                  refine lv_goto (tgt := 106) hx hb dX8_nextToken_190 (by decide) ?_
                  exact ih_106 (wmt2_106 + 1) (nI 2) (if wmt4_106 ≤ nI 99 then ((((nI 10) * wmt4_106) + (mt.1 wmt2_106)) - (nI 48)) else wmt4_106) (by omega) (Nat.succ_le_of_lt (show wmt2_106 < mt.2.1 from la_in c_8 (by decide))) (fun h => absurd h (by decide)) (by have e9 := hL_106; rw [L_X8_nextToken_106, if_neg c_7, if_neg c_8] at e9; exact e9) _ _ ls hP hS (lv_sub hl [0] rfl)
                · refine lv_icmp_le (tgt := 152) hx hb dX8_nextToken_142 (by decide) (fun c_10 => ?_) (fun c_10 => ?_)
                  · refine lv_bipush (v := nI 10) hx hb dX8_nextToken_152 rfl ?_
                    refine lv_aload_n hx hb dX8_nextToken_154 rfl (lv_at hl 0 rfl) ?_
                    refine va_get (D := D) (ci := 8) (v := .int wmt4_106) (C := RX8) (T := TX8) (N := 18) hx hb hts (by decide +kernel) hown hK hP 0 rfl rfl 6 (by decide) (hts (.fieldLink RX8 64 "SummitTimeModel" "value" "I") (by decide +kernel)) (fun _ h9 => h9) rfl dX8_nextToken_155 ?_
                    refine lv_imul hx hb dX8_nextToken_158 ?_
                    refine lv_aload_n hx hb dX8_nextToken_159 rfl (lv_at hl 0 rfl) ?_
                    refine va_get (D := D) (ci := 8) (v := .ref (ad 3)) (C := RX8) (T := TX8) (N := 18) hx hb hts (by decide +kernel) hown hK hP 0 rfl rfl 2 (by decide) (hts (.fieldLink RX8 16 "SummitTimeModel" "text" "[I") (by decide +kernel)) (fun _ h9 => h9) rfl dX8_nextToken_160 ?_
                    refine lv_aload_n hx hb dX8_nextToken_163 rfl (lv_at hl 0 rfl) ?_
                    refine va_get (D := D) (ci := 8) (v := .int (nI wmt2_106)) (C := RX8) (T := TX8) (N := 18) hx hb hts (by decide +kernel) hown hK hP 0 rfl rfl 4 (by decide) (hts (.fieldLink RX8 54 "SummitTimeModel" "place" "I") (by decide +kernel)) (fun _ h9 => h9) rfl dX8_nextToken_164 ?_
                    refine mv_iald (f := mt.1) hx hb hK hP 3 0 rfl rfl (by omega) (by decide) dX8_nextToken_167 ?_
                    refine lv_iadd hx hb dX8_nextToken_168 ?_
                    refine lv_bipush (v := nI 48) hx hb dX8_nextToken_169 rfl ?_
                    refine lv_isub hx hb dX8_nextToken_171 ?_
                    exact J_9 _ (by rw [if_pos c_10])
                  · refine lv_aload_n hx hb dX8_nextToken_145 rfl (lv_at hl 0 rfl) ?_
                    refine va_get (D := D) (ci := 8) (v := .int wmt4_106) (C := RX8) (T := TX8) (N := 18) hx hb hts (by decide +kernel) hown hK hP 0 rfl rfl 6 (by decide) (hts (.fieldLink RX8 64 "SummitTimeModel" "value" "I") (by decide +kernel)) (fun _ h9 => h9) rfl dX8_nextToken_146 ?_
                    refine lv_goto (tgt := 172) hx hb dX8_nextToken_149 (by decide) ?_
                    exact J_9 _ (by rw [if_neg c_10])
        exact loop_106 mt.2.1 T_59_2.1 T_59_2.2 (nI 0) (by omega) (by omega) p3 hT_106_3.symm _ _ ls hP hS (lv_sub hl [0] rfl)
      have loop_59 : ∀ (n_59 : Nat) (wmt2_59 : Nat) (wmt3_59 : Int32), (mt.2.1 ≤ wmt2_59 + n_59) → (wmt2_59 ≤ mt.2.1) → (wmt3_59 = 0 → wmt2_59 < mt.2.1) → L_X8_nextToken_59 mt T_0_1 n_59 wmt2_59 wmt3_59 = T_59_2 → ∀ (H : Heap) (locs : List Loc) (ls : Array Slot), va_P D vwCl (mW cI cL cZ ad to st (mt.1, mt.2.1, wmt2_59, wmt3_59, (nI 0), T_0_1, mt.2.2.2.2.2.2) rd un kp rw se) H → va_S A s.heap H locs → lv_has ls 1 [(0, .ref (ad 0))] → W p l e (headSpec wsX8_nextToken rm_X8_nextToken).room s m ([.ref (ad 0)] : List Value).toArray below meth c H locs 0 0 Q (F0 m 59 ls []) := by
        intro n_59
        induction n_59 with
        | zero =>
          intro wmt2_59 wmt3_59 i0 i1 i3 hL_59 H locs ls hP hS hl
          have hD : va_D A (mW cI cL cZ ad to st (mt.1, mt.2.1, wmt2_59, wmt3_59, (nI 0), T_0_1, mt.2.2.2.2.2.2) rd un kp rw se) := mW_D hD
          refine lv_aload_n hx hb dX8_nextToken_59 rfl (lv_at hl 0 rfl) ?_
          refine va_get (D := D) (ci := 8) (v := .int wmt3_59) (C := RX8) (T := TX8) (N := 18) hx hb hts (by decide +kernel) hown hK hP 0 rfl rfl 5 (by decide) (hts (.fieldLink RX8 67 "SummitTimeModel" "token" "I") (by decide +kernel)) (fun _ h9 => h9) rfl dX8_nextToken_60 ?_
          refine lv_iconst (v := nI 2) hx hb dX8_nextToken_63 rfl ?_
          refine lv_icmp_ge (tgt := 106) hx hb dX8_nextToken_64 (by decide) (fun c_5 => ?_) (fun c_5 => ?_)
          · have e9 : T_59_2 = (wmt2_59, wmt3_59) := by rw [← hL_59, L_X8_nextToken_59, if_pos c_5]
            have hq := hexit_59
            rw [e9] at hq
            exact hq _ _ ls (show wmt2_59 ≤ mt.2.1 from i1) (show wmt3_59 = 0 → wmt2_59 < mt.2.1 from i3) hP hS (lv_sub hl [0] rfl)
          · refine lv_aload_n hx hb dX8_nextToken_67 rfl (lv_at hl 0 rfl) ?_
            refine lv_aload_n hx hb dX8_nextToken_68 rfl (lv_at hl 0 rfl) ?_
            refine va_get (D := D) (ci := 8) (v := .int (nI wmt2_59)) (C := RX8) (T := TX8) (N := 18) hx hb hts (by decide +kernel) hown hK hP 0 rfl rfl 4 (by decide) (hts (.fieldLink RX8 54 "SummitTimeModel" "place" "I") (by decide +kernel)) (fun _ h9 => h9) rfl dX8_nextToken_69 ?_
            refine vp_callSi (va_Run.run (va_runV (As := [.int (nI wmt2_59)]) (rest := []) ⟨hx, hb, hml, hown, hts⟩ (c_X8_letterAt l D cI cL cZ ad A to st (mt.1, mt.2.1, wmt2_59, wmt3_59, (nI 0), T_0_1, mt.2.2.2.2.2.2) rd un kp rw se wmt2_59 (by first | assumption | omega) (by first | assumption | omega)) (cwV 1 hts gX8_nextToken_X8_letterAt rfl rfl rfl (by decide +kernel) ⟨Nat.le_of_ble_eq_true rfl, Nat.le_of_ble_eq_true rfl⟩) ⟨sR_fb, va_recv hK hP (ci := 8) (q0 := 0) rfl rfl, sR_at hP hK hD hE⟩ rfl rfl hl.1 rfl (lv_room (Nat.le_of_ble_eq_true rfl)) dX8_nextToken_72 ⟨Nat.zero_le _, Nat.zero_le _⟩)) (fun r hr => ?_)
            subst hr
            refine lv_i2l hx hb dX8_nextToken_75 rfl ?_
            refine lv_ldc2 (v := (97)) hx hb hown (hts (.constantLong RX8 70 (97)) (by decide +kernel)) dX8_nextToken_76 ?_
            refine lv_ldc2 (v := (122)) hx hb hown (hts (.constantLong RX8 72 (122)) (by decide +kernel)) dX8_nextToken_79 ?_
            refine vp_callSi (va_Run.run (va_runS (As := [.long ((f_X8_letterAt (mt.1, mt.2.1, wmt2_59, wmt3_59, (nI 0), T_0_1, mt.2.2.2.2.2.2) wmt2_59).toInt64), .long (97 : Int64), .long (122 : Int64)]) (rest := []) ⟨hx, hb, hml, hown, hts⟩ (c_X8_in l ((f_X8_letterAt (mt.1, mt.2.1, wmt2_59, wmt3_59, (nI 0), T_0_1, mt.2.2.2.2.2.2) wmt2_59).toInt64) (97 : Int64) (122 : Int64) ) (va_cwS 3 hts gX8_nextToken_X8_in rfl rfl rfl (by decide +kernel) ⟨Nat.le_of_ble_eq_true rfl, Nat.le_of_ble_eq_true rfl⟩) ⟨pR_fb, pR_at⟩ rfl rfl hl.1 rfl (lv_room (Nat.le_of_ble_eq_true rfl)) dX8_nextToken_82 ⟨Nat.zero_le _, Nat.zero_le _⟩)) (fun r hr => ?_)
            subst hr
            refine lv_if_eq (tgt := 106) hx hb dX8_nextToken_85 (by decide) (fun c_6 => ?_) (fun c_6 => (absurd (show wmt2_59 < mt.2.1 from la_in c_6 (by decide)) (by omega)))
            have e9 : T_59_2 = (wmt2_59, wmt3_59) := by rw [← hL_59, L_X8_nextToken_59, if_neg c_5]
            have hq := hexit_59
            rw [e9] at hq
            exact hq _ _ ls (show wmt2_59 ≤ mt.2.1 from i1) (show wmt3_59 = 0 → wmt2_59 < mt.2.1 from i3) hP hS (lv_sub hl [0] rfl)
        | succ n_59 ih_59 =>
          intro wmt2_59 wmt3_59 i0 i1 i3 hL_59 H locs ls hP hS hl
          have hD : va_D A (mW cI cL cZ ad to st (mt.1, mt.2.1, wmt2_59, wmt3_59, (nI 0), T_0_1, mt.2.2.2.2.2.2) rd un kp rw se) := mW_D hD
          refine lv_aload_n hx hb dX8_nextToken_59 rfl (lv_at hl 0 rfl) ?_
          refine va_get (D := D) (ci := 8) (v := .int wmt3_59) (C := RX8) (T := TX8) (N := 18) hx hb hts (by decide +kernel) hown hK hP 0 rfl rfl 5 (by decide) (hts (.fieldLink RX8 67 "SummitTimeModel" "token" "I") (by decide +kernel)) (fun _ h9 => h9) rfl dX8_nextToken_60 ?_
          refine lv_iconst (v := nI 2) hx hb dX8_nextToken_63 rfl ?_
          refine lv_icmp_ge (tgt := 106) hx hb dX8_nextToken_64 (by decide) (fun c_3 => ?_) (fun c_3 => ?_)
          · have e9 : T_59_2 = (wmt2_59, wmt3_59) := by rw [← hL_59, L_X8_nextToken_59, if_pos c_3]
            have hq := hexit_59
            rw [e9] at hq
            exact hq _ _ ls (show wmt2_59 ≤ mt.2.1 from i1) (show wmt3_59 = 0 → wmt2_59 < mt.2.1 from i3) hP hS (lv_sub hl [0] rfl)
          · refine lv_aload_n hx hb dX8_nextToken_67 rfl (lv_at hl 0 rfl) ?_
            refine lv_aload_n hx hb dX8_nextToken_68 rfl (lv_at hl 0 rfl) ?_
            refine va_get (D := D) (ci := 8) (v := .int (nI wmt2_59)) (C := RX8) (T := TX8) (N := 18) hx hb hts (by decide +kernel) hown hK hP 0 rfl rfl 4 (by decide) (hts (.fieldLink RX8 54 "SummitTimeModel" "place" "I") (by decide +kernel)) (fun _ h9 => h9) rfl dX8_nextToken_69 ?_
            refine vp_callSi (va_Run.run (va_runV (As := [.int (nI wmt2_59)]) (rest := []) ⟨hx, hb, hml, hown, hts⟩ (c_X8_letterAt l D cI cL cZ ad A to st (mt.1, mt.2.1, wmt2_59, wmt3_59, (nI 0), T_0_1, mt.2.2.2.2.2.2) rd un kp rw se wmt2_59 (by first | assumption | omega) (by first | assumption | omega)) (cwV 1 hts gX8_nextToken_X8_letterAt rfl rfl rfl (by decide +kernel) ⟨Nat.le_of_ble_eq_true rfl, Nat.le_of_ble_eq_true rfl⟩) ⟨sR_fb, va_recv hK hP (ci := 8) (q0 := 0) rfl rfl, sR_at hP hK hD hE⟩ rfl rfl hl.1 rfl (lv_room (Nat.le_of_ble_eq_true rfl)) dX8_nextToken_72 ⟨Nat.zero_le _, Nat.zero_le _⟩)) (fun r hr => ?_)
            subst hr
            refine lv_i2l hx hb dX8_nextToken_75 rfl ?_
            refine lv_ldc2 (v := (97)) hx hb hown (hts (.constantLong RX8 70 (97)) (by decide +kernel)) dX8_nextToken_76 ?_
            refine lv_ldc2 (v := (122)) hx hb hown (hts (.constantLong RX8 72 (122)) (by decide +kernel)) dX8_nextToken_79 ?_
            refine vp_callSi (va_Run.run (va_runS (As := [.long ((f_X8_letterAt (mt.1, mt.2.1, wmt2_59, wmt3_59, (nI 0), T_0_1, mt.2.2.2.2.2.2) wmt2_59).toInt64), .long (97 : Int64), .long (122 : Int64)]) (rest := []) ⟨hx, hb, hml, hown, hts⟩ (c_X8_in l ((f_X8_letterAt (mt.1, mt.2.1, wmt2_59, wmt3_59, (nI 0), T_0_1, mt.2.2.2.2.2.2) wmt2_59).toInt64) (97 : Int64) (122 : Int64) ) (va_cwS 3 hts gX8_nextToken_X8_in rfl rfl rfl (by decide +kernel) ⟨Nat.le_of_ble_eq_true rfl, Nat.le_of_ble_eq_true rfl⟩) ⟨pR_fb, pR_at⟩ rfl rfl hl.1 rfl (lv_room (Nat.le_of_ble_eq_true rfl)) dX8_nextToken_82 ⟨Nat.zero_le _, Nat.zero_le _⟩)) (fun r hr => ?_)
            subst hr
            refine lv_if_eq (tgt := 106) hx hb dX8_nextToken_85 (by decide) (fun c_4 => ?_) (fun c_4 => ?_)
            · have e9 : T_59_2 = (wmt2_59, wmt3_59) := by rw [← hL_59, L_X8_nextToken_59, if_neg c_3, if_pos c_4]
              have hq := hexit_59
              rw [e9] at hq
              exact hq _ _ ls (show wmt2_59 ≤ mt.2.1 from i1) (show wmt3_59 = 0 → wmt2_59 < mt.2.1 from i3) hP hS (lv_sub hl [0] rfl)
            · refine lv_aload_n hx hb dX8_nextToken_88 rfl (lv_at hl 0 rfl) ?_
              refine lv_iconst (v := nI 1) hx hb dX8_nextToken_89 rfl ?_
              refine va_put (D := D) (ci := 8) (v := .int (nI 1)) (ty := .int) (C := RX8) (T := TX8) (N := 18) hx hb hts (by decide +kernel) tyX8 tyX8_ok nmX8 hown hK hP hD hS 0 rfl rfl 5 (by decide) (hts (.fieldLink RX8 67 "SummitTimeModel" "token" "I") (by decide +kernel)) (fun _ h9 => h9) rfl (by decide +kernel) rfl rfl (Nat.le_of_ble_eq_true rfl) dX8_nextToken_90 (fun H locs hP hD hS => ?_)
              have hP : va_P D vwCl (mW cI cL cZ ad to st (mt.1, mt.2.1, wmt2_59, (nI 1), (nI 0), T_0_1, mt.2.2.2.2.2.2) rd un kp rw se) H := hP
              have hD : va_D A (mW cI cL cZ ad to st (mt.1, mt.2.1, wmt2_59, (nI 1), (nI 0), T_0_1, mt.2.2.2.2.2.2) rd un kp rw se) := hD
              refine lv_aload_n hx hb dX8_nextToken_93 rfl (lv_at hl 0 rfl) ?_
              refine lv_dup hx hb dX8_nextToken_94 rfl ?_
              refine va_get (D := D) (ci := 8) (v := .int (nI wmt2_59)) (C := RX8) (T := TX8) (N := 18) hx hb hts (by decide +kernel) hown hK hP 0 rfl rfl 4 (by decide) (hts (.fieldLink RX8 54 "SummitTimeModel" "place" "I") (by decide +kernel)) (fun _ h9 => h9) rfl dX8_nextToken_95 ?_
              refine lv_iconst (v := nI 1) hx hb dX8_nextToken_98 rfl ?_
              refine mv_iadd hx hb dX8_nextToken_99 ?_
              refine va_put (D := D) (ci := 8) (v := .int (nI (wmt2_59 + 1))) (ty := .int) (C := RX8) (T := TX8) (N := 18) hx hb hts (by decide +kernel) tyX8 tyX8_ok nmX8 hown hK hP hD hS 0 rfl rfl 4 (by decide) (hts (.fieldLink RX8 54 "SummitTimeModel" "place" "I") (by decide +kernel)) (fun _ h9 => h9) rfl (by decide +kernel) rfl rfl (Nat.le_of_ble_eq_true rfl) dX8_nextToken_100 (fun H locs hP hD hS => ?_)
              have hP : va_P D vwCl (mW cI cL cZ ad to st (mt.1, mt.2.1, (wmt2_59 + 1), (nI 1), (nI 0), T_0_1, mt.2.2.2.2.2.2) rd un kp rw se) H := hP
              have hD : va_D A (mW cI cL cZ ad to st (mt.1, mt.2.1, (wmt2_59 + 1), (nI 1), (nI 0), T_0_1, mt.2.2.2.2.2.2) rd un kp rw se) := hD
              refine lv_goto (tgt := 59) hx hb dX8_nextToken_103 (by decide) ?_
              exact ih_59 (wmt2_59 + 1) (nI 1) (by omega) (Nat.succ_le_of_lt (show wmt2_59 < mt.2.1 from la_in c_4 (by decide))) (fun h => absurd h (by decide)) (by have e9 := hL_59; rw [L_X8_nextToken_59, if_neg c_3, if_neg c_4] at e9; exact e9) _ _ ls hP hS (lv_sub hl [0] rfl)
      exact loop_59 mt.2.1 T_0_1 (if T_0_1 = mt.2.1 then nI 3 else nI 0) (by omega) (by omega) (nt_tok (by omega)) hT_59_2.symm _ _ ls hP hS (lv_sub hl [0] rfl)
    · refine mv_icmp_ne (tgt := 55) hx hb dX8_nextToken_48 (by decide) (by omega) (by omega) (fun c_19 => ?_) (fun c_19 => ?_)
      · refine lv_iconst (v := nI 0) hx hb dX8_nextToken_55 rfl ?_
        exact J_18 _ (by rw [if_neg c_19])
      · refine lv_iconst (v := nI 3) hx hb dX8_nextToken_51 rfl ?_
        refine lv_goto (tgt := 56) hx hb dX8_nextToken_52 (by decide) ?_
        exact J_18 _ (by rw [if_pos c_19])
  have loop_0 : ∀ (n_0 : Nat) (wmt2_0 : Nat), (mt.2.1 ≤ wmt2_0 + n_0) → (wmt2_0 ≤ mt.2.1) → L_X8_nextToken_0 mt n_0 wmt2_0 = T_0_1 → ∀ (H : Heap) (locs : List Loc) (ls : Array Slot), va_P D vwCl (mW cI cL cZ ad to st (mt.1, mt.2.1, wmt2_0, mt.2.2.2.1, mt.2.2.2.2.1, mt.2.2.2.2.2.1, mt.2.2.2.2.2.2) rd un kp rw se) H → va_S A s.heap H locs → lv_has ls 1 [(0, .ref (ad 0))] → W p l e (headSpec wsX8_nextToken rm_X8_nextToken).room s m ([.ref (ad 0)] : List Value).toArray below meth c H locs 0 0 Q (F0 m 0 ls []) := by
    intro n_0
    induction n_0 with
    | zero =>
      intro wmt2_0 h0 h1 hL_0 H locs ls hP hS hl
      have hD : va_D A (mW cI cL cZ ad to st (mt.1, mt.2.1, wmt2_0, mt.2.2.2.1, mt.2.2.2.2.1, mt.2.2.2.2.2.1, mt.2.2.2.2.2.2) rd un kp rw se) := mW_D hD
      refine lv_aload_n hx hb dX8_nextToken_0 rfl (lv_at hl 0 rfl) ?_
      refine lv_aload_n hx hb dX8_nextToken_1 rfl (lv_at hl 0 rfl) ?_
      refine va_get (D := D) (ci := 8) (v := .int (nI wmt2_0)) (C := RX8) (T := TX8) (N := 18) hx hb hts (by decide +kernel) hown hK hP 0 rfl rfl 4 (by decide) (hts (.fieldLink RX8 54 "SummitTimeModel" "place" "I") (by decide +kernel)) (fun _ h9 => h9) rfl dX8_nextToken_2 ?_
      refine vp_callSi (va_Run.run (va_runV (As := [.int (nI wmt2_0)]) (rest := []) ⟨hx, hb, hml, hown, hts⟩ (c_X8_letterAt l D cI cL cZ ad A to st (mt.1, mt.2.1, wmt2_0, mt.2.2.2.1, mt.2.2.2.2.1, mt.2.2.2.2.2.1, mt.2.2.2.2.2.2) rd un kp rw se wmt2_0 (by first | assumption | omega) (by first | assumption | omega)) (cwV 1 hts gX8_nextToken_X8_letterAt rfl rfl rfl (by decide +kernel) ⟨Nat.le_of_ble_eq_true rfl, Nat.le_of_ble_eq_true rfl⟩) ⟨sR_fb, va_recv hK hP (ci := 8) (q0 := 0) rfl rfl, sR_at hP hK hD hE⟩ rfl rfl hl.1 rfl (lv_room (Nat.le_of_ble_eq_true rfl)) dX8_nextToken_5 ⟨Nat.zero_le _, Nat.zero_le _⟩)) (fun r hr => ?_)
      subst hr
      refine lv_bipush (v := nI 32) hx hb dX8_nextToken_8 rfl ?_
      refine lv_icmp_ne (tgt := 26) hx hb dX8_nextToken_10 (by decide) (fun c_2 => ?_) (fun c_2 => (absurd (show wmt2_0 < mt.2.1 from la_lt c_2 (by decide)) (by omega)))
      have e9 : T_0_1 = wmt2_0 := by rw [← hL_0, L_X8_nextToken_0]
      have hq := hexit_0
      rw [e9] at hq
      exact hq _ _ ls (show wmt2_0 ≤ mt.2.1 from h1) hP hS (lv_sub hl [0] rfl)
    | succ n_0 ih_0 =>
      intro wmt2_0 h0 h1 hL_0 H locs ls hP hS hl
      have hD : va_D A (mW cI cL cZ ad to st (mt.1, mt.2.1, wmt2_0, mt.2.2.2.1, mt.2.2.2.2.1, mt.2.2.2.2.2.1, mt.2.2.2.2.2.2) rd un kp rw se) := mW_D hD
      refine lv_aload_n hx hb dX8_nextToken_0 rfl (lv_at hl 0 rfl) ?_
      refine lv_aload_n hx hb dX8_nextToken_1 rfl (lv_at hl 0 rfl) ?_
      refine va_get (D := D) (ci := 8) (v := .int (nI wmt2_0)) (C := RX8) (T := TX8) (N := 18) hx hb hts (by decide +kernel) hown hK hP 0 rfl rfl 4 (by decide) (hts (.fieldLink RX8 54 "SummitTimeModel" "place" "I") (by decide +kernel)) (fun _ h9 => h9) rfl dX8_nextToken_2 ?_
      refine vp_callSi (va_Run.run (va_runV (As := [.int (nI wmt2_0)]) (rest := []) ⟨hx, hb, hml, hown, hts⟩ (c_X8_letterAt l D cI cL cZ ad A to st (mt.1, mt.2.1, wmt2_0, mt.2.2.2.1, mt.2.2.2.2.1, mt.2.2.2.2.2.1, mt.2.2.2.2.2.2) rd un kp rw se wmt2_0 (by first | assumption | omega) (by first | assumption | omega)) (cwV 1 hts gX8_nextToken_X8_letterAt rfl rfl rfl (by decide +kernel) ⟨Nat.le_of_ble_eq_true rfl, Nat.le_of_ble_eq_true rfl⟩) ⟨sR_fb, va_recv hK hP (ci := 8) (q0 := 0) rfl rfl, sR_at hP hK hD hE⟩ rfl rfl hl.1 rfl (lv_room (Nat.le_of_ble_eq_true rfl)) dX8_nextToken_5 ⟨Nat.zero_le _, Nat.zero_le _⟩)) (fun r hr => ?_)
      subst hr
      refine lv_bipush (v := nI 32) hx hb dX8_nextToken_8 rfl ?_
      refine lv_icmp_ne (tgt := 26) hx hb dX8_nextToken_10 (by decide) (fun c_1 => ?_) (fun c_1 => ?_)
      · have e9 : T_0_1 = wmt2_0 := by rw [← hL_0, L_X8_nextToken_0, if_neg c_1]
        have hq := hexit_0
        rw [e9] at hq
        exact hq _ _ ls (show wmt2_0 ≤ mt.2.1 from h1) hP hS (lv_sub hl [0] rfl)
      · refine lv_aload_n hx hb dX8_nextToken_13 rfl (lv_at hl 0 rfl) ?_
        refine lv_dup hx hb dX8_nextToken_14 rfl ?_
        refine va_get (D := D) (ci := 8) (v := .int (nI wmt2_0)) (C := RX8) (T := TX8) (N := 18) hx hb hts (by decide +kernel) hown hK hP 0 rfl rfl 4 (by decide) (hts (.fieldLink RX8 54 "SummitTimeModel" "place" "I") (by decide +kernel)) (fun _ h9 => h9) rfl dX8_nextToken_15 ?_
        refine lv_iconst (v := nI 1) hx hb dX8_nextToken_18 rfl ?_
        refine mv_iadd hx hb dX8_nextToken_19 ?_
        refine va_put (D := D) (ci := 8) (v := .int (nI (wmt2_0 + 1))) (ty := .int) (C := RX8) (T := TX8) (N := 18) hx hb hts (by decide +kernel) tyX8 tyX8_ok nmX8 hown hK hP hD hS 0 rfl rfl 4 (by decide) (hts (.fieldLink RX8 54 "SummitTimeModel" "place" "I") (by decide +kernel)) (fun _ h9 => h9) rfl (by decide +kernel) rfl rfl (Nat.le_of_ble_eq_true rfl) dX8_nextToken_20 (fun H locs hP hD hS => ?_)
        have hP : va_P D vwCl (mW cI cL cZ ad to st (mt.1, mt.2.1, (wmt2_0 + 1), mt.2.2.2.1, mt.2.2.2.2.1, mt.2.2.2.2.2.1, mt.2.2.2.2.2.2) rd un kp rw se) H := hP
        have hD : va_D A (mW cI cL cZ ad to st (mt.1, mt.2.1, (wmt2_0 + 1), mt.2.2.2.1, mt.2.2.2.2.1, mt.2.2.2.2.2.1, mt.2.2.2.2.2.2) rd un kp rw se) := hD
        refine lv_goto (tgt := 0) hx hb dX8_nextToken_23 (by decide) ?_
        exact ih_0 (wmt2_0 + 1) (by omega) (Nat.succ_le_of_lt (show wmt2_0 < mt.2.1 from la_lt c_1 (by decide))) (by have e9 := hL_0; rw [L_X8_nextToken_0, if_pos c_1] at e9; exact e9) _ _ ls hP hS (lv_sub hl [0] rfl)
  exact loop_0 mt.2.1 mt.2.2.1 (by omega) (by omega) hT_0_1.symm _ _ ls hP hS (lv_sub hl [0] rfl)
