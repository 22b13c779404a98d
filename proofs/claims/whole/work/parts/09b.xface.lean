def f_X7_second (td : XTd) (dy : XDy) (sec : Int32) (wh : Int32) : Int32 := (if (f_X7_isWithin sec (nI 0) (nI 59)) = 0 then (-3 : Int32) else (if wh = nI 0 then (f_X0_ownerOf dy sec) else (if wh = nI 1 then (if (lg_cmp (td.2.2.2.2.2.2 &&& ((1 : Int64) <<< (sec.toInt64 &&& 63))) (0 : Int64)) = 0 then nI 0 else nI 1) else (if wh = nI 2 then (f_X7_whoStandIn td dy sec) else (-3 : Int32)))))
abbrev rm_X7_second : Room := { frames := 4, cells := 0, slots := 0, locals := 90 }
set_option maxHeartbeats 4000000 in
set_option maxRecDepth 100000 in
theorem c_X7_second (l : Launch) (D : va_G) (cI cL cZ : ClassId) (ad : Nat → Nat) (A : Nat → Prop) (tx : XTx) (td : XTd) (dr : XTd) (dy : XDy) (lb : (Nat → Int32)) (pn : (Nat × Nat)) (ps : XSh) (ks : XSh) (si : XSi) (kb : Int32) (sec : Int32) (wh : Int32) (hpe : td.2.2.2.2.2.1 ≤ 6) : Met l yX7_second wsX7_second rm_X7_second (va_Pc [.ref (ad 0), .int sec, .int wh] (sR D cI cL cZ A (xW cI cL cZ ad tx td dr dy lb pn ps ks si kb))) (vp_Si (fun r => r = (f_X7_second td dy sec wh))) 0 0 (fun _ => False) := by
  refine Met.ofW (cc := cX7_second) (maxL := 3) (ret := (some .int)) (by decide) rfl ?_
  intro p e s m args below meth c s₁ B hml hv
  obtain ⟨rfl, hP, hK, hD, hE⟩ := hv
  have hx := B.exec
  have hb := B.bytes
  have hr := B.returns
  have hts := atoms_spec (ws := wsX7_second) B.pre
  have hown : s.vm.findClass RX7 = some m.cls := findClass_of_methodNamed B.named
  have hlocks := B.notSynchronized
  have hl := lv_entry ([.ref (ad 0), .int sec, .int wh]) (n := 3) (Nat.le_of_ble_eq_true rfl)
  rw [lg_entry_eq]
  generalize (lg_sl ([.ref (ad 0), .int sec, .int wh]) ++ List.replicate (3 - (lg_sl ([.ref (ad 0), .int sec, .int wh])).length) Slot.unset).toArray = ls at hl ⊢
  have hl : lv_has ls 3 [(0, .ref (ad 0)), (1, .int sec), (2, .int wh)] := hl
  refine lv_iload_n hx hb dX7_second_0 rfl (lv_at hl 1 rfl) ?_
  refine lv_iconst (v := nI 0) hx hb dX7_second_1 rfl ?_
  refine lv_bipush (v := nI 59) hx hb dX7_second_2 rfl ?_
  refine vp_callSi (va_Run.run (va_runS (As := [.int sec, .int (nI 0), .int (nI 59)]) (rest := []) ⟨hx, hb, hml, hown, hts⟩ (c_X7_isWithin l sec (nI 0) (nI 59) ) (va_cwS 3 hts gX7_second_X7_isWithin rfl rfl rfl (by decide +kernel) ⟨Nat.le_of_ble_eq_true rfl, Nat.le_of_ble_eq_true rfl⟩) ⟨pR_fb, pR_at⟩ rfl rfl hl.1 rfl (lv_room (Nat.le_of_ble_eq_true rfl)) dX7_second_4 ⟨Nat.zero_le _, Nat.zero_le _⟩)) (fun r hr => ?_)
  subst hr
  refine lv_if_ne (tgt := 13) hx hb dX7_second_7 (by decide) (fun c_1 => ?_) (fun c_1 => ?_)
  · refine lv_iload_n hx hb dX7_second_13 rfl (lv_at hl 2 rfl) ?_
    by_cases c_2 : wh = nI 0
    · refine lv_tableIn (off := 26) (tgt := 40) hx hb dX7_second_14 (by rw [c_2]; decide) (by rw [c_2]; decide) (by rw [c_2]; decide) (by decide) ?_
      refine lv_aload_n hx hb dX7_second_40 rfl (lv_at hl 0 rfl) ?_
      refine va_get (D := D) (ci := 7) (v := .ref (ad 15)) (C := RX7) (T := TX7) (N := 9) hx hb hts (by decide +kernel) hown hK hP 0 rfl rfl 3 (by decide) (hts (.fieldLink RX7 29 "SummitTime" "day" "LSummitTime$Day;") (by decide +kernel)) (fun _ h9 => h9) rfl dX7_second_41 ?_
      refine lv_iload_n hx hb dX7_second_44 rfl (lv_at hl 1 rfl) ?_
      refine vp_callSi (va_Run.run (va_runV (As := [.int sec]) (rest := []) ⟨hx, hb, hml, hown, hts⟩ (c_X0_ownerOf l D cI cL cZ ad A tx td dr dy lb pn ps ks si kb sec ) (cwV 1 hts gX7_second_X0_ownerOf rfl rfl rfl (by decide +kernel) ⟨Nat.le_of_ble_eq_true rfl, Nat.le_of_ble_eq_true rfl⟩) ⟨sR_fb, va_recv hK hP (ci := 0) (q0 := 15) rfl rfl, sR_at hP hK hD hE⟩ rfl rfl hl.1 rfl (lv_room (Nat.le_of_ble_eq_true rfl)) dX7_second_45 ⟨Nat.zero_le _, Nat.zero_le _⟩)) (fun r hr => ?_)
      subst hr
      have hf : (f_X7_second td dy sec wh) = (f_X0_ownerOf dy sec) := by rw [f_X7_second, if_neg c_1, if_pos c_2]
      exact W.iret (v := (f_X0_ownerOf dy sec)) hx hb hr (fun t ht hW => ⟨(f_X0_ownerOf dy sec), rfl, hf.symm, ht⟩) (fun _ h => by cases h) dX7_second_48
    · by_cases c_3 : wh = nI 1
      · refine lv_tableIn (off := 35) (tgt := 49) hx hb dX7_second_14 (by rw [c_3]; decide) (by rw [c_3]; decide) (by rw [c_3]; decide) (by decide) ?_
        refine lv_aload_n hx hb dX7_second_49 rfl (lv_at hl 0 rfl) ?_
        refine va_get (D := D) (ci := 7) (v := .ref (ad 3)) (C := RX7) (T := TX7) (N := 9) hx hb hts (by decide +kernel) hown hK hP 0 rfl rfl 1 (by decide) (hts (.fieldLink RX7 19 "SummitTime" "told" "LSummitTime$Told;") (by decide +kernel)) (fun _ h9 => h9) rfl dX7_second_50 ?_
        refine va_getN (D := D) (ci := 6) (v := .long td.2.2.2.2.2.2) (C := RX6) (T := TX6) (N := 7) hx hb hts (by decide +kernel) hown hK hP 3 rfl rfl 6 (by decide) (va_Nw.use rfl hE.2.2.2.2.2.2.2.2.2.2.2.2.2.1) (fun _ h9 => h9) rfl dX7_second_53 ?_
        refine lv_lconst (v := 1) hx hb dX7_second_56 rfl ?_
        refine lv_iload_n hx hb dX7_second_57 rfl (lv_at hl 1 rfl) ?_
        refine lv_lshl hx hb dX7_second_58 rfl ?_
        refine lv_land hx hb dX7_second_59 ?_
        refine lv_lconst (v := 0) hx hb dX7_second_60 rfl ?_
        refine W.lcmp hx hb dX7_second_61 ?_
        refine mv_phi (v := (if (lg_cmp (td.2.2.2.2.2.2 &&& ((1 : Int64) <<< (sec.toInt64 &&& 63))) (0 : Int64)) = 0 then nI 0 else nI 1)) (pcj := 70) (ls := ls) (rest' := []) ?_ (fun J_4 => ?_)
        · have hf : (f_X7_second td dy sec wh) = (if (lg_cmp (td.2.2.2.2.2.2 &&& ((1 : Int64) <<< (sec.toInt64 &&& 63))) (0 : Int64)) = 0 then nI 0 else nI 1) := by rw [f_X7_second, if_neg c_1, if_neg c_2, if_pos c_3]
          exact W.iret (v := (if (lg_cmp (td.2.2.2.2.2.2 &&& ((1 : Int64) <<< (sec.toInt64 &&& 63))) (0 : Int64)) = 0 then nI 0 else nI 1)) hx hb hr (fun t ht hW => ⟨(if (lg_cmp (td.2.2.2.2.2.2 &&& ((1 : Int64) <<< (sec.toInt64 &&& 63))) (0 : Int64)) = 0 then nI 0 else nI 1), rfl, hf.symm, ht⟩) (fun _ h => by cases h) dX7_second_70
        · refine lv_if_eq (tgt := 69) hx hb dX7_second_62 (by decide) (fun c_5 => ?_) (fun c_5 => ?_)
          · refine lv_iconst (v := nI 0) hx hb dX7_second_69 rfl ?_
            exact J_4 _ (by rw [if_pos c_5])
          · refine lv_iconst (v := nI 1) hx hb dX7_second_65 rfl ?_
            refine lv_goto (tgt := 70) hx hb dX7_second_66 (by decide) ?_
            exact J_4 _ (by rw [if_neg c_5])
      · by_cases c_6 : wh = nI 2
        · refine lv_tableIn (off := 57) (tgt := 71) hx hb dX7_second_14 (by rw [c_6]; decide) (by rw [c_6]; decide) (by rw [c_6]; decide) (by decide) ?_
          refine lv_aload_n hx hb dX7_second_71 rfl (lv_at hl 0 rfl) ?_
          refine lv_iload_n hx hb dX7_second_72 rfl (lv_at hl 1 rfl) ?_
          refine vp_callSi (va_Run.run (va_runV (As := [.int sec]) (rest := []) ⟨hx, hb, hml, hown, hts⟩ (c_X7_whoStandIn l D cI cL cZ ad A tx td dr dy lb pn ps ks si kb sec (by first | assumption | omega)) (cwV 1 hts gX7_second_X7_whoStandIn rfl rfl rfl (by decide +kernel) ⟨Nat.le_of_ble_eq_true rfl, Nat.le_of_ble_eq_true rfl⟩) ⟨sR_fb, va_recv hK hP (ci := 7) (q0 := 0) rfl rfl, sR_at hP hK hD hE⟩ rfl rfl hl.1 rfl (lv_room (Nat.le_of_ble_eq_true rfl)) dX7_second_73 ⟨Nat.zero_le _, Nat.zero_le _⟩)) (fun r hr => ?_)
          subst hr
          have hf : (f_X7_second td dy sec wh) = (f_X7_whoStandIn td dy sec) := by rw [f_X7_second, if_neg c_1, if_neg c_2, if_neg c_3, if_pos c_6]
          exact W.iret (v := (f_X7_whoStandIn td dy sec)) hx hb hr (fun t ht hW => ⟨(f_X7_whoStandIn td dy sec), rfl, hf.symm, ht⟩) (fun _ h => by cases h) dX7_second_76
        · have w_7 : wh.toInt < 0 ∨ 2 < wh.toInt := by
            have := lv_neT c_2 (show (nI 0 : Int32).toInt = 0 by decide)
            have := lv_neT c_3 (show (nI 1 : Int32).toInt = 1 by decide)
            have := lv_neT c_6 (show (nI 2 : Int32).toInt = 2 by decide)
            omega
          refine lv_tableOut (tgt := 77) hx hb dX7_second_14 w_7 (by decide) ?_
          refine lv_bipush (v := (-3)) hx hb dX7_second_77 rfl ?_
          have hf : (f_X7_second td dy sec wh) = (-3 : Int32) := by rw [f_X7_second, if_neg c_1, if_neg c_2, if_neg c_3, if_neg c_6]
          exact W.iret (v := (-3 : Int32)) hx hb hr (fun t ht hW => ⟨(-3 : Int32), rfl, hf.symm, ht⟩) (fun _ h => by cases h) dX7_second_79
  · refine lv_bipush (v := (-3)) hx hb dX7_second_10 rfl ?_
    have hf : (f_X7_second td dy sec wh) = (-3 : Int32) := by rw [f_X7_second, if_pos c_1]
    exact W.iret (v := (-3 : Int32)) hx hb hr (fun t ht hW => ⟨(-3 : Int32), rfl, hf.symm, ht⟩) (fun _ h => by cases h) dX7_second_12
def f_X7_as (td : XTd) (pe : Int32) (ki : Int32) : Int32 := (if (f_X6_knows td pe) = 0 then (-2 : Int32) else (if (f_X7_isWithin ki (nI 0) ((nI 5) - (nI 1))) = 0 then (-3 : Int32) else (if (f_X7_isUnder ((f_X6_kindOf td pe) + (nI 1)) ki) = 0 then (-4 : Int32) else ((f_X6_walkOf td pe) + ((nI 100) * (f_X6_tollOf td pe))))))
abbrev rm_X7_as : Room := { frames := 1, cells := 0, slots := 0, locals := 23 }
set_option maxHeartbeats 4000000 in
set_option maxRecDepth 100000 in
theorem c_X7_as (l : Launch) (D : va_G) (cI cL cZ : ClassId) (ad : Nat → Nat) (A : Nat → Prop) (tO : Nat) (tx : XTx) (td : XTd) (dr : XTd) (dy : XDy) (lb : (Nat → Int32)) (pn : (Nat × Nat)) (ps : XSh) (ks : XSh) (si : XSi) (kb : Int32) (pe : Int32) (ki : Int32)  : Met l yX7_as wsX7_as rm_X7_as (va_Pc [.ref (ad 0), .int pe, .int ki] (fun U => sR D cI cL cZ A (xW cI cL cZ ad tx td dr dy lb pn ps ks si kb) U ∧ oE A tO U)) (vp_Si (fun r => r = (f_X7_as td pe ki))) 0 0 (fun _ => False) := by
  refine Met.ofW (cc := cX7_as) (maxL := 3) (ret := (some .int)) (by decide) rfl ?_
  intro p e s m args below meth c s₁ B hml hv
  obtain ⟨rfl, ⟨hP, hK, hD, hE⟩, hO⟩ := hv
  have hx := B.exec
  have hb := B.bytes
  have hr := B.returns
  have hts := atoms_spec (ws := wsX7_as) B.pre
  have hown : s.vm.findClass RX7 = some m.cls := findClass_of_methodNamed B.named
  have hlocks := B.notSynchronized
  have hS : va_S A s.heap s.heap [] := va_S.rf
  have hl := lv_entry ([.ref (ad 0), .int pe, .int ki]) (n := 3) (Nat.le_of_ble_eq_true rfl)
  rw [lg_entry_eq]
  generalize (lg_sl ([.ref (ad 0), .int pe, .int ki]) ++ List.replicate (3 - (lg_sl ([.ref (ad 0), .int pe, .int ki])).length) Slot.unset).toArray = ls at hl ⊢
  have hl : lv_has ls 3 [(0, .ref (ad 0)), (1, .int pe), (2, .int ki)] := hl
  refine lv_aload_n hx hb dX7_as_0 rfl (lv_at hl 0 rfl) ?_
  refine va_get (D := D) (ci := 7) (v := .ref (ad 3)) (C := RX7) (T := TX7) (N := 9) hx hb hts (by decide +kernel) hown hK hP 0 rfl rfl 1 (by decide) (hts (.fieldLink RX7 19 "SummitTime" "told" "LSummitTime$Told;") (by decide +kernel)) (fun _ h9 => h9) rfl dX7_as_1 ?_
  refine lv_iload_n hx hb dX7_as_4 rfl (lv_at hl 1 rfl) ?_
  refine vp_callSi (va_Run.run (va_runV (As := [.int pe]) (rest := []) ⟨hx, hb, hml, hown, hts⟩ (c_X6_knows l D cI cL cZ ad A tx td dr dy lb pn ps ks si kb pe ) (cwV 1 hts gX7_as_X6_knows rfl rfl rfl (by decide +kernel) ⟨Nat.le_of_ble_eq_true rfl, Nat.le_of_ble_eq_true rfl⟩) ⟨sR_fb, va_recv hK hP (ci := 6) (q0 := 3) rfl rfl, sR_at hP hK hD hE⟩ rfl rfl hl.1 rfl (lv_room (Nat.le_of_ble_eq_true rfl)) dX7_as_5 ⟨Nat.zero_le _, Nat.zero_le _⟩)) (fun r hr => ?_)
  subst hr
  refine lv_if_ne (tgt := 14) hx hb dX7_as_8 (by decide) (fun c_1 => ?_) (fun c_1 => ?_)
  · refine lv_iload_n hx hb dX7_as_14 rfl (lv_at hl 2 rfl) ?_
    refine lv_iconst (v := nI 0) hx hb dX7_as_15 rfl ?_
    refine va_gets hx hb hO.1 hS hown (hts (.fieldLink RX7 155 "SummitTime" "OVER" "[I") (by decide +kernel)) (fun _ h9 => h9) dX7_as_16 ?_
    refine va_tlen (v := nI 5) hx hb hO.2 hS rfl dX7_as_19 ?_
    refine lv_iconst (v := nI 1) hx hb dX7_as_20 rfl ?_
    refine lv_isub hx hb dX7_as_21 ?_
    refine vp_callSi (va_Run.run (va_runS (As := [.int ki, .int (nI 0), .int ((nI 5) - (nI 1))]) (rest := []) ⟨hx, hb, hml, hown, hts⟩ (c_X7_isWithin l ki (nI 0) ((nI 5) - (nI 1)) ) (va_cwS 3 hts gX7_as_X7_isWithin rfl rfl rfl (by decide +kernel) ⟨Nat.le_of_ble_eq_true rfl, Nat.le_of_ble_eq_true rfl⟩) ⟨pR_fb, pR_at⟩ rfl rfl hl.1 rfl (lv_room (Nat.le_of_ble_eq_true rfl)) dX7_as_22 ⟨Nat.zero_le _, Nat.zero_le _⟩)) (fun r hr => ?_)
    subst hr
    refine lv_if_ne (tgt := 31) hx hb dX7_as_25 (by decide) (fun c_2 => ?_) (fun c_2 => ?_)
    · refine lv_aload_n hx hb dX7_as_31 rfl (lv_at hl 0 rfl) ?_
      refine va_get (D := D) (ci := 7) (v := .ref (ad 3)) (C := RX7) (T := TX7) (N := 9) hx hb hts (by decide +kernel) hown hK hP 0 rfl rfl 1 (by decide) (hts (.fieldLink RX7 19 "SummitTime" "told" "LSummitTime$Told;") (by decide +kernel)) (fun _ h9 => h9) rfl dX7_as_32 ?_
      refine lv_iload_n hx hb dX7_as_35 rfl (lv_at hl 1 rfl) ?_
      refine vp_callSi (va_Run.run (va_runV (As := [.int pe]) (rest := []) ⟨hx, hb, hml, hown, hts⟩ (c_X6_kindOf l D cI cL cZ ad A tx td dr dy lb pn ps ks si kb pe ) (cwV 1 hts gX7_as_X6_kindOf rfl rfl rfl (by decide +kernel) ⟨Nat.le_of_ble_eq_true rfl, Nat.le_of_ble_eq_true rfl⟩) ⟨sR_fb, va_recv hK hP (ci := 6) (q0 := 3) rfl rfl, sR_at hP hK hD hE⟩ rfl rfl hl.1 rfl (lv_room (Nat.le_of_ble_eq_true rfl)) dX7_as_36 ⟨Nat.zero_le _, Nat.zero_le _⟩)) (fun r hr => ?_)
      subst hr
      refine lv_iconst (v := nI 1) hx hb dX7_as_39 rfl ?_
      refine lv_iadd hx hb dX7_as_40 ?_
      refine lv_iload_n hx hb dX7_as_41 rfl (lv_at hl 2 rfl) ?_
      refine vp_callSi (va_Run.run (va_runS (As := [.int ((f_X6_kindOf td pe) + (nI 1)), .int ki]) (rest := []) ⟨hx, hb, hml, hown, hts⟩ (c_X7_isUnder l A tO ((f_X6_kindOf td pe) + (nI 1)) ki ) (va_cwS 2 hts gX7_as_X7_isUnder rfl rfl rfl (by decide +kernel) ⟨Nat.le_of_ble_eq_true rfl, Nat.le_of_ble_eq_true rfl⟩) ⟨oE_fb, oE_at hO hS⟩ rfl rfl hl.1 rfl (lv_room (Nat.le_of_ble_eq_true rfl)) dX7_as_42 ⟨Nat.zero_le _, Nat.zero_le _⟩)) (fun r hr => ?_)
      subst hr
      refine lv_if_ne (tgt := 51) hx hb dX7_as_45 (by decide) (fun c_3 => ?_) (fun c_3 => ?_)
      · refine lv_aload_n hx hb dX7_as_51 rfl (lv_at hl 0 rfl) ?_
        refine va_get (D := D) (ci := 7) (v := .ref (ad 3)) (C := RX7) (T := TX7) (N := 9) hx hb hts (by decide +kernel) hown hK hP 0 rfl rfl 1 (by decide) (hts (.fieldLink RX7 19 "SummitTime" "told" "LSummitTime$Told;") (by decide +kernel)) (fun _ h9 => h9) rfl dX7_as_52 ?_
        refine lv_iload_n hx hb dX7_as_55 rfl (lv_at hl 1 rfl) ?_
        refine vp_callSi (va_Run.run (va_runV (As := [.int pe]) (rest := []) ⟨hx, hb, hml, hown, hts⟩ (c_X6_walkOf l D cI cL cZ ad A tx td dr dy lb pn ps ks si kb pe ) (cwV 1 hts gX7_as_X6_walkOf rfl rfl rfl (by decide +kernel) ⟨Nat.le_of_ble_eq_true rfl, Nat.le_of_ble_eq_true rfl⟩) ⟨sR_fb, va_recv hK hP (ci := 6) (q0 := 3) rfl rfl, sR_at hP hK hD hE⟩ rfl rfl hl.1 rfl (lv_room (Nat.le_of_ble_eq_true rfl)) dX7_as_56 ⟨Nat.zero_le _, Nat.zero_le _⟩)) (fun r hr => ?_)
        subst hr
        refine lv_bipush (v := nI 100) hx hb dX7_as_59 rfl ?_
        refine lv_aload_n hx hb dX7_as_61 rfl (lv_at hl 0 rfl) ?_
        refine va_get (D := D) (ci := 7) (v := .ref (ad 3)) (C := RX7) (T := TX7) (N := 9) hx hb hts (by decide +kernel) hown hK hP 0 rfl rfl 1 (by decide) (hts (.fieldLink RX7 19 "SummitTime" "told" "LSummitTime$Told;") (by decide +kernel)) (fun _ h9 => h9) rfl dX7_as_62 ?_
        refine lv_iload_n hx hb dX7_as_65 rfl (lv_at hl 1 rfl) ?_
        refine vp_callSi (va_Run.run (va_runV (As := [.int pe]) (rest := [.int (nI 100), .int (f_X6_walkOf td pe)]) ⟨hx, hb, hml, hown, hts⟩ (c_X6_tollOf l D cI cL cZ ad A tx td dr dy lb pn ps ks si kb pe ) (cwV 1 hts gX7_as_X6_tollOf rfl rfl rfl (by decide +kernel) ⟨Nat.le_of_ble_eq_true rfl, Nat.le_of_ble_eq_true rfl⟩) ⟨sR_fb, va_recv hK hP (ci := 6) (q0 := 3) rfl rfl, sR_at hP hK hD hE⟩ rfl rfl hl.1 rfl (lv_room (Nat.le_of_ble_eq_true rfl)) dX7_as_66 ⟨Nat.zero_le _, Nat.zero_le _⟩)) (fun r hr => ?_)
        subst hr
        refine lv_imul hx hb dX7_as_69 ?_
        refine lv_iadd hx hb dX7_as_70 ?_
        have hf : (f_X7_as td pe ki) = ((f_X6_walkOf td pe) + ((nI 100) * (f_X6_tollOf td pe))) := by rw [f_X7_as, if_neg c_1, if_neg c_2, if_neg c_3]
        exact W.iret (v := ((f_X6_walkOf td pe) + ((nI 100) * (f_X6_tollOf td pe)))) hx hb hr (fun t ht hW => ⟨((f_X6_walkOf td pe) + ((nI 100) * (f_X6_tollOf td pe))), rfl, hf.symm, ht⟩) (fun _ h => by cases h) dX7_as_71
      · refine lv_bipush (v := (-4)) hx hb dX7_as_48 rfl ?_
        have hf : (f_X7_as td pe ki) = (-4 : Int32) := by rw [f_X7_as, if_neg c_1, if_neg c_2, if_pos c_3]
        exact W.iret (v := (-4 : Int32)) hx hb hr (fun t ht hW => ⟨(-4 : Int32), rfl, hf.symm, ht⟩) (fun _ h => by cases h) dX7_as_50
    · refine lv_bipush (v := (-3)) hx hb dX7_as_28 rfl ?_
      have hf : (f_X7_as td pe ki) = (-3 : Int32) := by rw [f_X7_as, if_neg c_1, if_pos c_2]
      exact W.iret (v := (-3 : Int32)) hx hb hr (fun t ht hW => ⟨(-3 : Int32), rfl, hf.symm, ht⟩) (fun _ h => by cases h) dX7_as_30
  · refine lv_bipush (v := (-2)) hx hb dX7_as_11 rfl ?_
    have hf : (f_X7_as td pe ki) = (-2 : Int32) := by rw [f_X7_as, if_pos c_1]
    exact W.iret (v := (-2 : Int32)) hx hb hr (fun t ht hW => ⟨(-2 : Int32), rfl, hf.symm, ht⟩) (fun _ h => by cases h) dX7_as_13
def f_X7_start (td : XTd) (dy : XDy) (pn : (Nat × Nat)) (ps : XSh) (pe : Int32) (sec : Int32) : Int32 × XDy × (Nat × Nat) × XSh := (if (f_X6_knows td pe) = 0 then ((-2 : Int32), dy, pn, ps) else (if (f_X7_isWithin sec (nI 0) (nI 59)) = 0 then ((-3 : Int32), dy, pn, ps) else (((sec + (f_X6_walkOf td pe)) + ((f_X0_setStart dy pe sec).2.2.2)), (f_X0_setStart dy pe sec), ((f_X2_record dy pn ps).1), ((f_X2_record dy pn ps).2))))
abbrev rm_X7_start : Room := { frames := 2, cells := 0, slots := 0, locals := 45 }
set_option maxHeartbeats 4000000 in
set_option maxRecDepth 100000 in
theorem c_X7_start (l : Launch) (D : va_G) (cI cL cZ : ClassId) (ad : Nat → Nat) (A : Nat → Prop) (tx : XTx) (td : XTd) (dr : XTd) (dy : XDy) (lb : (Nat → Int32)) (pn : (Nat × Nat)) (ps : XSh) (ks : XSh) (si : XSi) (kb : Int32) (pe : Int32) (sec : Int32) (hn : pn.1 < 8) (hh : pn.2 ≤ 8) : Met l yX7_start wsX7_start rm_X7_start (va_Pc [.ref (ad 0), .int pe, .int sec] (sR D cI cL cZ A (xW cI cL cZ ad tx td dr dy lb pn ps ks si kb))) (va_Qi (fun (r : Int32) (u : XDy × (Nat × Nat) × XSh) => r = (f_X7_start td dy pn ps pe sec).1 ∧ u = (f_X7_start td dy pn ps pe sec).2) (fun (u : XDy × (Nat × Nat) × XSh) t => va_P D vwCl (xW cI cL cZ ad tx td dr u.1 lb u.2.1 u.2.2 ks si kb) t.heap) A) 0 0 A := by
  refine Met.ofW (cc := cX7_start) (maxL := 3) (ret := (some .int)) (by decide) rfl ?_
  intro p e s m args below meth c s₁ B hml hv
  obtain ⟨rfl, hP, hK, hD, hE⟩ := hv
  have hx := B.exec
  have hb := B.bytes
  have hr := B.returns
  have hts := atoms_spec (ws := wsX7_start) B.pre
  have hown : s.vm.findClass RX7 = some m.cls := findClass_of_methodNamed B.named
  have hlocks := B.notSynchronized
  have hS : va_S A s.heap s.heap [] := va_S.rf
  have hl := lv_entry ([.ref (ad 0), .int pe, .int sec]) (n := 3) (Nat.le_of_ble_eq_true rfl)
  rw [lg_entry_eq]
  generalize (lg_sl ([.ref (ad 0), .int pe, .int sec]) ++ List.replicate (3 - (lg_sl ([.ref (ad 0), .int pe, .int sec])).length) Slot.unset).toArray = ls at hl ⊢
  have hl : lv_has ls 3 [(0, .ref (ad 0)), (1, .int pe), (2, .int sec)] := hl
  refine lv_aload_n hx hb dX7_start_0 rfl (lv_at hl 0 rfl) ?_
  refine va_get (D := D) (ci := 7) (v := .ref (ad 3)) (C := RX7) (T := TX7) (N := 9) hx hb hts (by decide +kernel) hown hK hP 0 rfl rfl 1 (by decide) (hts (.fieldLink RX7 19 "SummitTime" "told" "LSummitTime$Told;") (by decide +kernel)) (fun _ h9 => h9) rfl dX7_start_1 ?_
  refine lv_iload_n hx hb dX7_start_4 rfl (lv_at hl 1 rfl) ?_
  refine vp_callSi (va_Run.run (va_runV (As := [.int pe]) (rest := []) ⟨hx, hb, hml, hown, hts⟩ (c_X6_knows l D cI cL cZ ad A tx td dr dy lb pn ps ks si kb pe ) (cwV 1 hts gX7_start_X6_knows rfl rfl rfl (by decide +kernel) ⟨Nat.le_of_ble_eq_true rfl, Nat.le_of_ble_eq_true rfl⟩) ⟨sR_fb, va_recv hK hP (ci := 6) (q0 := 3) rfl rfl, sR_at hP hK hD hE⟩ rfl rfl hl.1 rfl (lv_room (Nat.le_of_ble_eq_true rfl)) dX7_start_5 ⟨Nat.zero_le _, Nat.zero_le _⟩)) (fun r hr => ?_)
  subst hr
  refine lv_if_ne (tgt := 14) hx hb dX7_start_8 (by decide) (fun c_1 => ?_) (fun c_1 => ?_)
  · refine lv_iload_n hx hb dX7_start_14 rfl (lv_at hl 2 rfl) ?_
    refine lv_iconst (v := nI 0) hx hb dX7_start_15 rfl ?_
    refine lv_bipush (v := nI 59) hx hb dX7_start_16 rfl ?_
    refine vp_callSi (va_Run.run (va_runS (As := [.int sec, .int (nI 0), .int (nI 59)]) (rest := []) ⟨hx, hb, hml, hown, hts⟩ (c_X7_isWithin l sec (nI 0) (nI 59) ) (va_cwS 3 hts gX7_start_X7_isWithin rfl rfl rfl (by decide +kernel) ⟨Nat.le_of_ble_eq_true rfl, Nat.le_of_ble_eq_true rfl⟩) ⟨pR_fb, pR_at⟩ rfl rfl hl.1 rfl (lv_room (Nat.le_of_ble_eq_true rfl)) dX7_start_18 ⟨Nat.zero_le _, Nat.zero_le _⟩)) (fun r hr => ?_)
    subst hr
    refine lv_if_ne (tgt := 27) hx hb dX7_start_21 (by decide) (fun c_2 => ?_) (fun c_2 => ?_)
    · refine lv_aload_n hx hb dX7_start_27 rfl (lv_at hl 0 rfl) ?_
      refine va_get (D := D) (ci := 7) (v := .ref (ad 20)) (C := RX7) (T := TX7) (N := 9) hx hb hts (by decide +kernel) hown hK hP 0 rfl rfl 5 (by decide) (hts (.fieldLink RX7 45 "SummitTime" "past" "LSummitTime$Past;") (by decide +kernel)) (fun _ h9 => h9) rfl dX7_start_28 ?_
      refine lv_aload_n hx hb dX7_start_31 rfl (lv_at hl 0 rfl) ?_
      refine va_get (D := D) (ci := 7) (v := .ref (ad 15)) (C := RX7) (T := TX7) (N := 9) hx hb hts (by decide +kernel) hown hK hP 0 rfl rfl 3 (by decide) (hts (.fieldLink RX7 29 "SummitTime" "day" "LSummitTime$Day;") (by decide +kernel)) (fun _ h9 => h9) rfl dX7_start_32 ?_
      refine va_callv (va_runV (As := [.ref (ad 15)]) (rest := []) ⟨hx, hb, hml, hown, hts⟩ (c_X2_record l D cI cL cZ ad A tx td dr dy lb pn ps ks si kb  (by first | assumption | omega) (by first | assumption | omega)) (cwV 1 hts gX7_start_X2_record rfl rfl rfl (by decide +kernel) ⟨Nat.le_of_ble_eq_true rfl, Nat.le_of_ble_eq_true rfl⟩) ⟨sR_fb, va_recv hK hP (ci := 2) (q0 := 20) rfl rfl, sR_at hP hK hD hE⟩ rfl rfl hl.1 rfl (lv_room (Nat.le_of_ble_eq_true rfl)) dX7_start_35 ⟨Nat.zero_le _, Nat.zero_le _⟩) hS (fun q _ h => h) (fun q h => h) (fun u t H locs ht hvm hw hB hz1 hk1 hS => ?_)
      subst hw
      rw [ht] at hB
      have hP : va_P D vwCl (xW cI cL cZ ad tx td dr dy lb ((f_X2_record dy pn ps).1) ((f_X2_record dy pn ps).2) ks si kb) H := hB
      have hD : va_D A (xW cI cL cZ ad tx td dr dy lb ((f_X2_record dy pn ps).1) ((f_X2_record dy pn ps).2) ks si kb) := xW_D hD
      refine lv_aload_n hx hb dX7_start_38 rfl (lv_at hl 0 rfl) ?_
      refine va_get (D := D) (ci := 7) (v := .ref (ad 15)) (C := RX7) (T := TX7) (N := 9) hx hb hts (by decide +kernel) hown hK hP 0 rfl rfl 3 (by decide) (hts (.fieldLink RX7 29 "SummitTime" "day" "LSummitTime$Day;") (by decide +kernel)) (fun _ h9 => h9) rfl dX7_start_39 ?_
      refine lv_iload_n hx hb dX7_start_42 rfl (lv_at hl 1 rfl) ?_
      refine lv_iload_n hx hb dX7_start_43 rfl (lv_at hl 2 rfl) ?_
      refine va_callv (va_runV (As := [.int pe, .int sec]) (rest := []) ⟨hx, hb, hml, hown, hts⟩ (c_X0_setStart l D cI cL cZ ad A tx td dr dy lb ((f_X2_record dy pn ps).1) ((f_X2_record dy pn ps).2) ks si kb pe sec ) (cwV 2 hts gX7_start_X0_setStart rfl rfl rfl (by decide +kernel) ⟨Nat.le_of_ble_eq_true rfl, Nat.le_of_ble_eq_true rfl⟩) ⟨sR_fb, va_recv hK hP (ci := 0) (q0 := 15) rfl rfl, sR_at hP hK hD hE⟩ rfl rfl hl.1 rfl (lv_room (Nat.le_of_ble_eq_true rfl)) dX7_start_44 ⟨Nat.zero_le _, Nat.zero_le _⟩) hS (fun q _ h => h) (fun q h => h) (fun u t H locs ht hvm hw hB hz1 hk1 hS => ?_)
      subst hw
      rw [ht] at hB
      have hP : va_P D vwCl (xW cI cL cZ ad tx td dr (f_X0_setStart dy pe sec) lb ((f_X2_record dy pn ps).1) ((f_X2_record dy pn ps).2) ks si kb) H := hB
      have hD : va_D A (xW cI cL cZ ad tx td dr (f_X0_setStart dy pe sec) lb ((f_X2_record dy pn ps).1) ((f_X2_record dy pn ps).2) ks si kb) := xW_D hD
      refine lv_iload_n hx hb dX7_start_47 rfl (lv_at hl 2 rfl) ?_
      refine lv_aload_n hx hb dX7_start_48 rfl (lv_at hl 0 rfl) ?_
      refine va_get (D := D) (ci := 7) (v := .ref (ad 3)) (C := RX7) (T := TX7) (N := 9) hx hb hts (by decide +kernel) hown hK hP 0 rfl rfl 1 (by decide) (hts (.fieldLink RX7 19 "SummitTime" "told" "LSummitTime$Told;") (by decide +kernel)) (fun _ h9 => h9) rfl dX7_start_49 ?_
      refine lv_iload_n hx hb dX7_start_52 rfl (lv_at hl 1 rfl) ?_
      refine vp_callSi (va_Run.run (va_runV (As := [.int pe]) (rest := [.int sec]) ⟨hx, hb, hml, hown, hts⟩ (c_X6_walkOf l D cI cL cZ ad A tx td dr (f_X0_setStart dy pe sec) lb ((f_X2_record dy pn ps).1) ((f_X2_record dy pn ps).2) ks si kb pe ) (cwV 1 hts gX7_start_X6_walkOf rfl rfl rfl (by decide +kernel) ⟨Nat.le_of_ble_eq_true rfl, Nat.le_of_ble_eq_true rfl⟩) ⟨sR_fb, va_recv hK hP (ci := 6) (q0 := 3) rfl rfl, sR_at hP hK hD hE⟩ rfl rfl hl.1 rfl (lv_room (Nat.le_of_ble_eq_true rfl)) dX7_start_53 ⟨Nat.zero_le _, Nat.zero_le _⟩)) (fun r hr => ?_)
      subst hr
      refine lv_iadd hx hb dX7_start_56 ?_
      refine lv_aload_n hx hb dX7_start_57 rfl (lv_at hl 0 rfl) ?_
      refine va_get (D := D) (ci := 7) (v := .ref (ad 15)) (C := RX7) (T := TX7) (N := 9) hx hb hts (by decide +kernel) hown hK hP 0 rfl rfl 3 (by decide) (hts (.fieldLink RX7 29 "SummitTime" "day" "LSummitTime$Day;") (by decide +kernel)) (fun _ h9 => h9) rfl dX7_start_58 ?_
      refine va_getN (D := D) (ci := 0) (v := .int ((f_X0_setStart dy pe sec).2.2.2)) (C := RX0) (T := TX0) (N := 4) hx hb hts (by decide +kernel) hown hK hP 15 rfl rfl 3 (by decide) (va_Nw.use rfl hE.2.2.2.2.2.2.2.2.2.2.2.2.1) (fun _ h9 => h9) rfl dX7_start_61 ?_
      refine lv_iadd hx hb dX7_start_64 ?_
      have hf : (f_X7_start td dy pn ps pe sec) = (((sec + (f_X6_walkOf td pe)) + ((f_X0_setStart dy pe sec).2.2.2)), (f_X0_setStart dy pe sec), ((f_X2_record dy pn ps).1), ((f_X2_record dy pn ps).2)) := by rw [f_X7_start, if_neg c_1, if_neg c_2]
      have hf1 : ((sec + (f_X6_walkOf td pe)) + ((f_X0_setStart dy pe sec).2.2.2)) = (f_X7_start td dy pn ps pe sec).1 := by rw [hf]
      have hf2 : ((f_X0_setStart dy pe sec), ((f_X2_record dy pn ps).1), ((f_X2_record dy pn ps).2)) = (f_X7_start td dy pn ps pe sec).2 := by rw [hf]
      exact W.iret (v := ((sec + (f_X6_walkOf td pe)) + ((f_X0_setStart dy pe sec).2.2.2))) hx hb hr (fun t ht hW => ⟨⟨((sec + (f_X6_walkOf td pe)) + ((f_X0_setStart dy pe sec).2.2.2)), ((f_X0_setStart dy pe sec), ((f_X2_record dy pn ps).1), ((f_X2_record dy pn ps).2)), rfl, ⟨hf1, hf2⟩, va_Pt ht hP⟩, hS.F ht⟩) hS.2.2 dX7_start_65
    · refine lv_bipush (v := (-3)) hx hb dX7_start_24 rfl ?_
      have hf : (f_X7_start td dy pn ps pe sec) = ((-3 : Int32), dy, pn, ps) := by rw [f_X7_start, if_neg c_1, if_pos c_2]
      have hf1 : (-3 : Int32) = (f_X7_start td dy pn ps pe sec).1 := by rw [hf]
      have hf2 : (dy, pn, ps) = (f_X7_start td dy pn ps pe sec).2 := by rw [hf]
      exact W.iret (v := (-3 : Int32)) hx hb hr (fun t ht hW => ⟨⟨(-3 : Int32), (dy, pn, ps), rfl, ⟨hf1, hf2⟩, va_Pt ht hP⟩, hS.F ht⟩) hS.2.2 dX7_start_26
  · refine lv_bipush (v := (-2)) hx hb dX7_start_11 rfl ?_
    have hf : (f_X7_start td dy pn ps pe sec) = ((-2 : Int32), dy, pn, ps) := by rw [f_X7_start, if_pos c_1]
    have hf1 : (-2 : Int32) = (f_X7_start td dy pn ps pe sec).1 := by rw [hf]
    have hf2 : (dy, pn, ps) = (f_X7_start td dy pn ps pe sec).2 := by rw [hf]
    exact W.iret (v := (-2 : Int32)) hx hb hr (fun t ht hW => ⟨⟨(-2 : Int32), (dy, pn, ps), rfl, ⟨hf1, hf2⟩, va_Pt ht hP⟩, hS.F ht⟩) hS.2.2 dX7_start_13
def f_X7_stays (td : XTd) (dy : XDy) (pn : (Nat × Nat)) (ps : XSh) (pe : Int32) : Int32 × XDy × (Nat × Nat) × XSh := (if (f_X6_knows td pe) = 0 then ((-2 : Int32), dy, pn, ps) else (if (f_X0_startOf dy pe) = (-1 : Int32) then ((-4 : Int32), dy, pn, ps) else ((f_X0_startOf dy pe), (f_X0_setStart dy pe (-1 : Int32)), ((f_X2_record dy pn ps).1), ((f_X2_record dy pn ps).2))))
abbrev rm_X7_stays : Room := { frames := 2, cells := 0, slots := 0, locals := 45 }
set_option maxHeartbeats 4000000 in
set_option maxRecDepth 100000 in
theorem c_X7_stays (l : Launch) (D : va_G) (cI cL cZ : ClassId) (ad : Nat → Nat) (A : Nat → Prop) (tx : XTx) (td : XTd) (dr : XTd) (dy : XDy) (lb : (Nat → Int32)) (pn : (Nat × Nat)) (ps : XSh) (ks : XSh) (si : XSi) (kb : Int32) (pe : Int32) (hn : pn.1 < 8) (hh : pn.2 ≤ 8) : Met l yX7_stays wsX7_stays rm_X7_stays (va_Pc [.ref (ad 0), .int pe] (sR D cI cL cZ A (xW cI cL cZ ad tx td dr dy lb pn ps ks si kb))) (va_Qi (fun (r : Int32) (u : XDy × (Nat × Nat) × XSh) => r = (f_X7_stays td dy pn ps pe).1 ∧ u = (f_X7_stays td dy pn ps pe).2) (fun (u : XDy × (Nat × Nat) × XSh) t => va_P D vwCl (xW cI cL cZ ad tx td dr u.1 lb u.2.1 u.2.2 ks si kb) t.heap) A) 0 0 A := by
  refine Met.ofW (cc := cX7_stays) (maxL := 3) (ret := (some .int)) (by decide) rfl ?_
  intro p e s m args below meth c s₁ B hml hv
  obtain ⟨rfl, hP, hK, hD, hE⟩ := hv
  have hx := B.exec
  have hb := B.bytes
  have hr := B.returns
  have hts := atoms_spec (ws := wsX7_stays) B.pre
  have hown : s.vm.findClass RX7 = some m.cls := findClass_of_methodNamed B.named
  have hlocks := B.notSynchronized
  have hS : va_S A s.heap s.heap [] := va_S.rf
  have hl := lv_entry ([.ref (ad 0), .int pe]) (n := 3) (Nat.le_of_ble_eq_true rfl)
  rw [lg_entry_eq]
  generalize (lg_sl ([.ref (ad 0), .int pe]) ++ List.replicate (3 - (lg_sl ([.ref (ad 0), .int pe])).length) Slot.unset).toArray = ls at hl ⊢
  have hl : lv_has ls 3 [(0, .ref (ad 0)), (1, .int pe)] := hl
  refine lv_aload_n hx hb dX7_stays_0 rfl (lv_at hl 0 rfl) ?_
  refine va_get (D := D) (ci := 7) (v := .ref (ad 3)) (C := RX7) (T := TX7) (N := 9) hx hb hts (by decide +kernel) hown hK hP 0 rfl rfl 1 (by decide) (hts (.fieldLink RX7 19 "SummitTime" "told" "LSummitTime$Told;") (by decide +kernel)) (fun _ h9 => h9) rfl dX7_stays_1 ?_
  refine lv_iload_n hx hb dX7_stays_4 rfl (lv_at hl 1 rfl) ?_
  refine vp_callSi (va_Run.run (va_runV (As := [.int pe]) (rest := []) ⟨hx, hb, hml, hown, hts⟩ (c_X6_knows l D cI cL cZ ad A tx td dr dy lb pn ps ks si kb pe ) (cwV 1 hts gX7_stays_X6_knows rfl rfl rfl (by decide +kernel) ⟨Nat.le_of_ble_eq_true rfl, Nat.le_of_ble_eq_true rfl⟩) ⟨sR_fb, va_recv hK hP (ci := 6) (q0 := 3) rfl rfl, sR_at hP hK hD hE⟩ rfl rfl hl.1 rfl (lv_room (Nat.le_of_ble_eq_true rfl)) dX7_stays_5 ⟨Nat.zero_le _, Nat.zero_le _⟩)) (fun r hr => ?_)
  subst hr
  refine lv_if_ne (tgt := 14) hx hb dX7_stays_8 (by decide) (fun c_1 => ?_) (fun c_1 => ?_)
  · refine lv_aload_n hx hb dX7_stays_14 rfl (lv_at hl 0 rfl) ?_
    refine va_get (D := D) (ci := 7) (v := .ref (ad 15)) (C := RX7) (T := TX7) (N := 9) hx hb hts (by decide +kernel) hown hK hP 0 rfl rfl 3 (by decide) (hts (.fieldLink RX7 29 "SummitTime" "day" "LSummitTime$Day;") (by decide +kernel)) (fun _ h9 => h9) rfl dX7_stays_15 ?_
    refine lv_iload_n hx hb dX7_stays_18 rfl (lv_at hl 1 rfl) ?_
    refine vp_callSi (va_Run.run (va_runV (As := [.int pe]) (rest := []) ⟨hx, hb, hml, hown, hts⟩ (c_X0_startOf l D cI cL cZ ad A tx td dr dy lb pn ps ks si kb pe ) (cwV 1 hts gX7_stays_X0_startOf rfl rfl rfl (by decide +kernel) ⟨Nat.le_of_ble_eq_true rfl, Nat.le_of_ble_eq_true rfl⟩) ⟨sR_fb, va_recv hK hP (ci := 0) (q0 := 15) rfl rfl, sR_at hP hK hD hE⟩ rfl rfl hl.1 rfl (lv_room (Nat.le_of_ble_eq_true rfl)) dX7_stays_19 ⟨Nat.zero_le _, Nat.zero_le _⟩)) (fun r hr => ?_)
    subst hr
    refine lv_istore_n (lv' := [(2, .int (f_X0_startOf dy pe)), (0, .ref (ad 0)), (1, .int pe)]) hx hb dX7_stays_22 rfl hl (by decide) rfl (fun ls hl => ?_)
    refine lv_iload_n hx hb dX7_stays_23 rfl (lv_at hl 0 rfl) ?_
    refine lv_iconst (v := (-1)) hx hb dX7_stays_24 rfl ?_
    refine lv_icmp_ne (tgt := 31) hx hb dX7_stays_25 (by decide) (fun c_2 => ?_) (fun c_2 => ?_)
    · refine lv_aload_n hx hb dX7_stays_31 rfl (lv_at hl 1 rfl) ?_
      refine va_get (D := D) (ci := 7) (v := .ref (ad 20)) (C := RX7) (T := TX7) (N := 9) hx hb hts (by decide +kernel) hown hK hP 0 rfl rfl 5 (by decide) (hts (.fieldLink RX7 45 "SummitTime" "past" "LSummitTime$Past;") (by decide +kernel)) (fun _ h9 => h9) rfl dX7_stays_32 ?_
      refine lv_aload_n hx hb dX7_stays_35 rfl (lv_at hl 1 rfl) ?_
      refine va_get (D := D) (ci := 7) (v := .ref (ad 15)) (C := RX7) (T := TX7) (N := 9) hx hb hts (by decide +kernel) hown hK hP 0 rfl rfl 3 (by decide) (hts (.fieldLink RX7 29 "SummitTime" "day" "LSummitTime$Day;") (by decide +kernel)) (fun _ h9 => h9) rfl dX7_stays_36 ?_
      refine va_callv (va_runV (As := [.ref (ad 15)]) (rest := []) ⟨hx, hb, hml, hown, hts⟩ (c_X2_record l D cI cL cZ ad A tx td dr dy lb pn ps ks si kb  (by first | assumption | omega) (by first | assumption | omega)) (cwV 1 hts gX7_stays_X2_record rfl rfl rfl (by decide +kernel) ⟨Nat.le_of_ble_eq_true rfl, Nat.le_of_ble_eq_true rfl⟩) ⟨sR_fb, va_recv hK hP (ci := 2) (q0 := 20) rfl rfl, sR_at hP hK hD hE⟩ rfl rfl hl.1 rfl (lv_room (Nat.le_of_ble_eq_true rfl)) dX7_stays_39 ⟨Nat.zero_le _, Nat.zero_le _⟩) hS (fun q _ h => h) (fun q h => h) (fun u t H locs ht hvm hw hB hz1 hk1 hS => ?_)
      subst hw
      rw [ht] at hB
      have hP : va_P D vwCl (xW cI cL cZ ad tx td dr dy lb ((f_X2_record dy pn ps).1) ((f_X2_record dy pn ps).2) ks si kb) H := hB
      have hD : va_D A (xW cI cL cZ ad tx td dr dy lb ((f_X2_record dy pn ps).1) ((f_X2_record dy pn ps).2) ks si kb) := xW_D hD
      refine lv_aload_n hx hb dX7_stays_42 rfl (lv_at hl 1 rfl) ?_
      refine va_get (D := D) (ci := 7) (v := .ref (ad 15)) (C := RX7) (T := TX7) (N := 9) hx hb hts (by decide +kernel) hown hK hP 0 rfl rfl 3 (by decide) (hts (.fieldLink RX7 29 "SummitTime" "day" "LSummitTime$Day;") (by decide +kernel)) (fun _ h9 => h9) rfl dX7_stays_43 ?_
      refine lv_iload_n hx hb dX7_stays_46 rfl (lv_at hl 2 rfl) ?_
      refine lv_iconst (v := (-1)) hx hb dX7_stays_47 rfl ?_
      refine va_callv (va_runV (As := [.int pe, .int (-1 : Int32)]) (rest := []) ⟨hx, hb, hml, hown, hts⟩ (c_X0_setStart l D cI cL cZ ad A tx td dr dy lb ((f_X2_record dy pn ps).1) ((f_X2_record dy pn ps).2) ks si kb pe (-1 : Int32) ) (cwV 2 hts gX7_stays_X0_setStart rfl rfl rfl (by decide +kernel) ⟨Nat.le_of_ble_eq_true rfl, Nat.le_of_ble_eq_true rfl⟩) ⟨sR_fb, va_recv hK hP (ci := 0) (q0 := 15) rfl rfl, sR_at hP hK hD hE⟩ rfl rfl hl.1 rfl (lv_room (Nat.le_of_ble_eq_true rfl)) dX7_stays_48 ⟨Nat.zero_le _, Nat.zero_le _⟩) hS (fun q _ h => h) (fun q h => h) (fun u t H locs ht hvm hw hB hz1 hk1 hS => ?_)
      subst hw
      rw [ht] at hB
      have hP : va_P D vwCl (xW cI cL cZ ad tx td dr (f_X0_setStart dy pe (-1 : Int32)) lb ((f_X2_record dy pn ps).1) ((f_X2_record dy pn ps).2) ks si kb) H := hB
      have hD : va_D A (xW cI cL cZ ad tx td dr (f_X0_setStart dy pe (-1 : Int32)) lb ((f_X2_record dy pn ps).1) ((f_X2_record dy pn ps).2) ks si kb) := xW_D hD
      refine lv_iload_n hx hb dX7_stays_51 rfl (lv_at hl 0 rfl) ?_
      have hf : (f_X7_stays td dy pn ps pe) = ((f_X0_startOf dy pe), (f_X0_setStart dy pe (-1 : Int32)), ((f_X2_record dy pn ps).1), ((f_X2_record dy pn ps).2)) := by rw [f_X7_stays, if_neg c_1, if_neg c_2]
      have hf1 : (f_X0_startOf dy pe) = (f_X7_stays td dy pn ps pe).1 := by rw [hf]
      have hf2 : ((f_X0_setStart dy pe (-1 : Int32)), ((f_X2_record dy pn ps).1), ((f_X2_record dy pn ps).2)) = (f_X7_stays td dy pn ps pe).2 := by rw [hf]
      exact W.iret (v := (f_X0_startOf dy pe)) hx hb hr (fun t ht hW => ⟨⟨(f_X0_startOf dy pe), ((f_X0_setStart dy pe (-1 : Int32)), ((f_X2_record dy pn ps).1), ((f_X2_record dy pn ps).2)), rfl, ⟨hf1, hf2⟩, va_Pt ht hP⟩, hS.F ht⟩) hS.2.2 dX7_stays_52
    · refine lv_bipush (v := (-4)) hx hb dX7_stays_28 rfl ?_
      have hf : (f_X7_stays td dy pn ps pe) = ((-4 : Int32), dy, pn, ps) := by rw [f_X7_stays, if_neg c_1, if_pos c_2]
      have hf1 : (-4 : Int32) = (f_X7_stays td dy pn ps pe).1 := by rw [hf]
      have hf2 : (dy, pn, ps) = (f_X7_stays td dy pn ps pe).2 := by rw [hf]
      exact W.iret (v := (-4 : Int32)) hx hb hr (fun t ht hW => ⟨⟨(-4 : Int32), (dy, pn, ps), rfl, ⟨hf1, hf2⟩, va_Pt ht hP⟩, hS.F ht⟩) hS.2.2 dX7_stays_30
  · refine lv_bipush (v := (-2)) hx hb dX7_stays_11 rfl ?_
    have hf : (f_X7_stays td dy pn ps pe) = ((-2 : Int32), dy, pn, ps) := by rw [f_X7_stays, if_pos c_1]
    have hf1 : (-2 : Int32) = (f_X7_stays td dy pn ps pe).1 := by rw [hf]
    have hf2 : (dy, pn, ps) = (f_X7_stays td dy pn ps pe).2 := by rw [hf]
    exact W.iret (v := (-2 : Int32)) hx hb hr (fun t ht hW => ⟨⟨(-2 : Int32), (dy, pn, ps), rfl, ⟨hf1, hf2⟩, va_Pt ht hP⟩, hS.F ht⟩) hS.2.2 dX7_stays_13
def f_X7_rope (td : XTd) (dy : XDy) (pn : (Nat × Nat)) (ps : XSh) (pe : Int32) (on : Int32) : Int32 × XDy × (Nat × Nat) × XSh := (if (f_X6_knows td pe) = 0 then ((-2 : Int32), dy, pn, ps) else (if (f_X7_isWithin on (nI 0) (nI 1)) = 0 then ((-3 : Int32), dy, pn, ps) else ((if (f_X0_isRoped dy pe) = 0 then nI 0 else nI 1), (f_X0_setRope dy pe (if on = nI 1 then nI 1 else nI 0)), ((f_X2_record dy pn ps).1), ((f_X2_record dy pn ps).2))))
abbrev rm_X7_rope : Room := { frames := 2, cells := 0, slots := 0, locals := 45 }
set_option maxHeartbeats 4000000 in
set_option maxRecDepth 100000 in
theorem c_X7_rope (l : Launch) (D : va_G) (cI cL cZ : ClassId) (ad : Nat → Nat) (A : Nat → Prop) (tx : XTx) (td : XTd) (dr : XTd) (dy : XDy) (lb : (Nat → Int32)) (pn : (Nat × Nat)) (ps : XSh) (ks : XSh) (si : XSi) (kb : Int32) (pe : Int32) (on : Int32) (hn : pn.1 < 8) (hh : pn.2 ≤ 8) : Met l yX7_rope wsX7_rope rm_X7_rope (va_Pc [.ref (ad 0), .int pe, .int on] (sR D cI cL cZ A (xW cI cL cZ ad tx td dr dy lb pn ps ks si kb))) (va_Qi (fun (r : Int32) (u : XDy × (Nat × Nat) × XSh) => r = (f_X7_rope td dy pn ps pe on).1 ∧ u = (f_X7_rope td dy pn ps pe on).2) (fun (u : XDy × (Nat × Nat) × XSh) t => va_P D vwCl (xW cI cL cZ ad tx td dr u.1 lb u.2.1 u.2.2 ks si kb) t.heap) A) 0 0 A := by
  refine Met.ofW (cc := cX7_rope) (maxL := 4) (ret := (some .int)) (by decide) rfl ?_
  intro p e s m args below meth c s₁ B hml hv
  obtain ⟨rfl, hP, hK, hD, hE⟩ := hv
  have hx := B.exec
  have hb := B.bytes
  have hr := B.returns
  have hts := atoms_spec (ws := wsX7_rope) B.pre
  have hown : s.vm.findClass RX7 = some m.cls := findClass_of_methodNamed B.named
  have hlocks := B.notSynchronized
  have hS : va_S A s.heap s.heap [] := va_S.rf
  have hl := lv_entry ([.ref (ad 0), .int pe, .int on]) (n := 4) (Nat.le_of_ble_eq_true rfl)
  rw [lg_entry_eq]
  generalize (lg_sl ([.ref (ad 0), .int pe, .int on]) ++ List.replicate (4 - (lg_sl ([.ref (ad 0), .int pe, .int on])).length) Slot.unset).toArray = ls at hl ⊢
  have hl : lv_has ls 4 [(0, .ref (ad 0)), (1, .int pe), (2, .int on)] := hl
  refine lv_aload_n hx hb dX7_rope_0 rfl (lv_at hl 0 rfl) ?_
  refine va_get (D := D) (ci := 7) (v := .ref (ad 3)) (C := RX7) (T := TX7) (N := 9) hx hb hts (by decide +kernel) hown hK hP 0 rfl rfl 1 (by decide) (hts (.fieldLink RX7 19 "SummitTime" "told" "LSummitTime$Told;") (by decide +kernel)) (fun _ h9 => h9) rfl dX7_rope_1 ?_
  refine lv_iload_n hx hb dX7_rope_4 rfl (lv_at hl 1 rfl) ?_
  refine vp_callSi (va_Run.run (va_runV (As := [.int pe]) (rest := []) ⟨hx, hb, hml, hown, hts⟩ (c_X6_knows l D cI cL cZ ad A tx td dr dy lb pn ps ks si kb pe ) (cwV 1 hts gX7_rope_X6_knows rfl rfl rfl (by decide +kernel) ⟨Nat.le_of_ble_eq_true rfl, Nat.le_of_ble_eq_true rfl⟩) ⟨sR_fb, va_recv hK hP (ci := 6) (q0 := 3) rfl rfl, sR_at hP hK hD hE⟩ rfl rfl hl.1 rfl (lv_room (Nat.le_of_ble_eq_true rfl)) dX7_rope_5 ⟨Nat.zero_le _, Nat.zero_le _⟩)) (fun r hr => ?_)
  subst hr
  refine lv_if_ne (tgt := 14) hx hb dX7_rope_8 (by decide) (fun c_1 => ?_) (fun c_1 => ?_)
  · refine lv_iload_n hx hb dX7_rope_14 rfl (lv_at hl 2 rfl) ?_
    refine lv_iconst (v := nI 0) hx hb dX7_rope_15 rfl ?_
    refine lv_iconst (v := nI 1) hx hb dX7_rope_16 rfl ?_
    refine vp_callSi (va_Run.run (va_runS (As := [.int on, .int (nI 0), .int (nI 1)]) (rest := []) ⟨hx, hb, hml, hown, hts⟩ (c_X7_isWithin l on (nI 0) (nI 1) ) (va_cwS 3 hts gX7_rope_X7_isWithin rfl rfl rfl (by decide +kernel) ⟨Nat.le_of_ble_eq_true rfl, Nat.le_of_ble_eq_true rfl⟩) ⟨pR_fb, pR_at⟩ rfl rfl hl.1 rfl (lv_room (Nat.le_of_ble_eq_true rfl)) dX7_rope_17 ⟨Nat.zero_le _, Nat.zero_le _⟩)) (fun r hr => ?_)
    subst hr
    refine lv_if_ne (tgt := 26) hx hb dX7_rope_20 (by decide) (fun c_2 => ?_) (fun c_2 => ?_)
    · refine lv_aload_n hx hb dX7_rope_26 rfl (lv_at hl 0 rfl) ?_
      refine va_get (D := D) (ci := 7) (v := .ref (ad 20)) (C := RX7) (T := TX7) (N := 9) hx hb hts (by decide +kernel) hown hK hP 0 rfl rfl 5 (by decide) (hts (.fieldLink RX7 45 "SummitTime" "past" "LSummitTime$Past;") (by decide +kernel)) (fun _ h9 => h9) rfl dX7_rope_27 ?_
      refine lv_aload_n hx hb dX7_rope_30 rfl (lv_at hl 0 rfl) ?_
      refine va_get (D := D) (ci := 7) (v := .ref (ad 15)) (C := RX7) (T := TX7) (N := 9) hx hb hts (by decide +kernel) hown hK hP 0 rfl rfl 3 (by decide) (hts (.fieldLink RX7 29 "SummitTime" "day" "LSummitTime$Day;") (by decide +kernel)) (fun _ h9 => h9) rfl dX7_rope_31 ?_
      refine va_callv (va_runV (As := [.ref (ad 15)]) (rest := []) ⟨hx, hb, hml, hown, hts⟩ (c_X2_record l D cI cL cZ ad A tx td dr dy lb pn ps ks si kb  (by first | assumption | omega) (by first | assumption | omega)) (cwV 1 hts gX7_rope_X2_record rfl rfl rfl (by decide +kernel) ⟨Nat.le_of_ble_eq_true rfl, Nat.le_of_ble_eq_true rfl⟩) ⟨sR_fb, va_recv hK hP (ci := 2) (q0 := 20) rfl rfl, sR_at hP hK hD hE⟩ rfl rfl hl.1 rfl (lv_room (Nat.le_of_ble_eq_true rfl)) dX7_rope_34 ⟨Nat.zero_le _, Nat.zero_le _⟩) hS (fun q _ h => h) (fun q h => h) (fun u t H locs ht hvm hw hB hz1 hk1 hS => ?_)
      subst hw
      rw [ht] at hB
      have hP : va_P D vwCl (xW cI cL cZ ad tx td dr dy lb ((f_X2_record dy pn ps).1) ((f_X2_record dy pn ps).2) ks si kb) H := hB
      have hD : va_D A (xW cI cL cZ ad tx td dr dy lb ((f_X2_record dy pn ps).1) ((f_X2_record dy pn ps).2) ks si kb) := xW_D hD
      refine lv_aload_n hx hb dX7_rope_37 rfl (lv_at hl 0 rfl) ?_
      refine va_get (D := D) (ci := 7) (v := .ref (ad 15)) (C := RX7) (T := TX7) (N := 9) hx hb hts (by decide +kernel) hown hK hP 0 rfl rfl 3 (by decide) (hts (.fieldLink RX7 29 "SummitTime" "day" "LSummitTime$Day;") (by decide +kernel)) (fun _ h9 => h9) rfl dX7_rope_38 ?_
      refine lv_iload_n hx hb dX7_rope_41 rfl (lv_at hl 1 rfl) ?_
      refine vp_callSi (va_Run.run (va_runV (As := [.int pe]) (rest := []) ⟨hx, hb, hml, hown, hts⟩ (c_X0_isRoped l D cI cL cZ ad A tx td dr dy lb ((f_X2_record dy pn ps).1) ((f_X2_record dy pn ps).2) ks si kb pe ) (cwV 1 hts gX7_rope_X0_isRoped rfl rfl rfl (by decide +kernel) ⟨Nat.le_of_ble_eq_true rfl, Nat.le_of_ble_eq_true rfl⟩) ⟨sR_fb, va_recv hK hP (ci := 0) (q0 := 15) rfl rfl, sR_at hP hK hD hE⟩ rfl rfl hl.1 rfl (lv_room (Nat.le_of_ble_eq_true rfl)) dX7_rope_42 ⟨Nat.zero_le _, Nat.zero_le _⟩)) (fun r hr => ?_)
      subst hr
      refine mv_phi (v := (if (f_X0_isRoped dy pe) = 0 then nI 0 else nI 1)) (pcj := 53) (ls := ls) (rest' := []) ?_ (fun J_5 => ?_)
      · refine lv_istore_n (lv' := [(3, .int (if (f_X0_isRoped dy pe) = 0 then nI 0 else nI 1)), (0, .ref (ad 0)), (1, .int pe), (2, .int on)]) hx hb dX7_rope_53 rfl hl (by decide) rfl (fun ls hl => ?_)
        refine lv_aload_n hx hb dX7_rope_54 rfl (lv_at hl 1 rfl) ?_
        refine va_get (D := D) (ci := 7) (v := .ref (ad 15)) (C := RX7) (T := TX7) (N := 9) hx hb hts (by decide +kernel) hown hK hP 0 rfl rfl 3 (by decide) (hts (.fieldLink RX7 29 "SummitTime" "day" "LSummitTime$Day;") (by decide +kernel)) (fun _ h9 => h9) rfl dX7_rope_55 ?_
        refine lv_iload_n hx hb dX7_rope_58 rfl (lv_at hl 2 rfl) ?_
        refine lv_iload_n hx hb dX7_rope_59 rfl (lv_at hl 3 rfl) ?_
        refine lv_iconst (v := nI 1) hx hb dX7_rope_60 rfl ?_
        refine mv_phi (v := (if on = nI 1 then nI 1 else nI 0)) (pcj := 69) (ls := ls) (rest' := [.int pe, .ref (ad 15)]) ?_ (fun J_3 => ?_)
        · refine va_callv (va_runV (As := [.int pe, .int (if on = nI 1 then nI 1 else nI 0)]) (rest := []) ⟨hx, hb, hml, hown, hts⟩ (c_X0_setRope l D cI cL cZ ad A tx td dr dy lb ((f_X2_record dy pn ps).1) ((f_X2_record dy pn ps).2) ks si kb pe (if on = nI 1 then nI 1 else nI 0) ) (cwV 2 hts gX7_rope_X0_setRope rfl rfl rfl (by decide +kernel) ⟨Nat.le_of_ble_eq_true rfl, Nat.le_of_ble_eq_true rfl⟩) ⟨sR_fb, va_recv hK hP (ci := 0) (q0 := 15) rfl rfl, sR_at hP hK hD hE⟩ rfl rfl hl.1 rfl (lv_room (Nat.le_of_ble_eq_true rfl)) dX7_rope_69 ⟨Nat.zero_le _, Nat.zero_le _⟩) hS (fun q _ h => h) (fun q h => h) (fun u t H locs ht hvm hw hB hz1 hk1 hS => ?_)
          subst hw
          rw [ht] at hB
          have hP : va_P D vwCl (xW cI cL cZ ad tx td dr (f_X0_setRope dy pe (if on = nI 1 then nI 1 else nI 0)) lb ((f_X2_record dy pn ps).1) ((f_X2_record dy pn ps).2) ks si kb) H := hB
          have hD : va_D A (xW cI cL cZ ad tx td dr (f_X0_setRope dy pe (if on = nI 1 then nI 1 else nI 0)) lb ((f_X2_record dy pn ps).1) ((f_X2_record dy pn ps).2) ks si kb) := xW_D hD
          refine lv_iload_n hx hb dX7_rope_72 rfl (lv_at hl 0 rfl) ?_
          have hf : (f_X7_rope td dy pn ps pe on) = ((if (f_X0_isRoped dy pe) = 0 then nI 0 else nI 1), (f_X0_setRope dy pe (if on = nI 1 then nI 1 else nI 0)), ((f_X2_record dy pn ps).1), ((f_X2_record dy pn ps).2)) := by rw [f_X7_rope, if_neg c_1, if_neg c_2]
          have hf1 : (if (f_X0_isRoped dy pe) = 0 then nI 0 else nI 1) = (f_X7_rope td dy pn ps pe on).1 := by rw [hf]
          have hf2 : ((f_X0_setRope dy pe (if on = nI 1 then nI 1 else nI 0)), ((f_X2_record dy pn ps).1), ((f_X2_record dy pn ps).2)) = (f_X7_rope td dy pn ps pe on).2 := by rw [hf]
          exact W.iret (v := (if (f_X0_isRoped dy pe) = 0 then nI 0 else nI 1)) hx hb hr (fun t ht hW => ⟨⟨(if (f_X0_isRoped dy pe) = 0 then nI 0 else nI 1), ((f_X0_setRope dy pe (if on = nI 1 then nI 1 else nI 0)), ((f_X2_record dy pn ps).1), ((f_X2_record dy pn ps).2)), rfl, ⟨hf1, hf2⟩, va_Pt ht hP⟩, hS.F ht⟩) hS.2.2 dX7_rope_73
        · refine lv_icmp_ne (tgt := 68) hx hb dX7_rope_61 (by decide) (fun c_4 => ?_) (fun c_4 => ?_)
          · refine lv_iconst (v := nI 0) hx hb dX7_rope_68 rfl ?_
            exact J_3 _ (by rw [if_neg c_4])
          · refine lv_iconst (v := nI 1) hx hb dX7_rope_64 rfl ?_
            refine lv_goto (tgt := 69) hx hb dX7_rope_65 (by decide) ?_
            exact J_3 _ (by rw [if_pos c_4])
      · refine lv_if_eq (tgt := 52) hx hb dX7_rope_45 (by decide) (fun c_6 => ?_) (fun c_6 => ?_)
        · refine lv_iconst (v := nI 0) hx hb dX7_rope_52 rfl ?_
          exact J_5 _ (by rw [if_pos c_6])
        · refine lv_iconst (v := nI 1) hx hb dX7_rope_48 rfl ?_
          refine lv_goto (tgt := 53) hx hb dX7_rope_49 (by decide) ?_
          exact J_5 _ (by rw [if_neg c_6])
    · refine lv_bipush (v := (-3)) hx hb dX7_rope_23 rfl ?_
      have hf : (f_X7_rope td dy pn ps pe on) = ((-3 : Int32), dy, pn, ps) := by rw [f_X7_rope, if_neg c_1, if_pos c_2]
      have hf1 : (-3 : Int32) = (f_X7_rope td dy pn ps pe on).1 := by rw [hf]
      have hf2 : (dy, pn, ps) = (f_X7_rope td dy pn ps pe on).2 := by rw [hf]
      exact W.iret (v := (-3 : Int32)) hx hb hr (fun t ht hW => ⟨⟨(-3 : Int32), (dy, pn, ps), rfl, ⟨hf1, hf2⟩, va_Pt ht hP⟩, hS.F ht⟩) hS.2.2 dX7_rope_25
  · refine lv_bipush (v := (-2)) hx hb dX7_rope_11 rfl ?_
    have hf : (f_X7_rope td dy pn ps pe on) = ((-2 : Int32), dy, pn, ps) := by rw [f_X7_rope, if_pos c_1]
    have hf1 : (-2 : Int32) = (f_X7_rope td dy pn ps pe on).1 := by rw [hf]
    have hf2 : (dy, pn, ps) = (f_X7_rope td dy pn ps pe on).2 := by rw [hf]
    exact W.iret (v := (-2 : Int32)) hx hb hr (fun t ht hW => ⟨⟨(-2 : Int32), (dy, pn, ps), rfl, ⟨hf1, hf2⟩, va_Pt ht hP⟩, hS.F ht⟩) hS.2.2 dX7_rope_13
def f_X7_clock (dy : XDy) (pn : (Nat × Nat)) (ps : XSh) (kk : Int32) : Int32 × XDy × (Nat × Nat) × XSh := (if (f_X7_isWithin kk (nI 0) (nI 9)) = 0 then ((-3 : Int32), dy, pn, ps) else (dy.2.2.2, (dy.1, dy.2.1, dy.2.2.1, kk), ((f_X2_record dy pn ps).1), ((f_X2_record dy pn ps).2)))
abbrev rm_X7_clock : Room := { frames := 2, cells := 0, slots := 0, locals := 45 }
set_option maxHeartbeats 4000000 in
set_option maxRecDepth 100000 in
theorem c_X7_clock (l : Launch) (D : va_G) (cI cL cZ : ClassId) (ad : Nat → Nat) (A : Nat → Prop) (tx : XTx) (td : XTd) (dr : XTd) (dy : XDy) (lb : (Nat → Int32)) (pn : (Nat × Nat)) (ps : XSh) (ks : XSh) (si : XSi) (kb : Int32) (kk : Int32) (hn : pn.1 < 8) (hh : pn.2 ≤ 8) : Met l yX7_clock wsX7_clock rm_X7_clock (va_Pc [.ref (ad 0), .int kk] (sR D cI cL cZ A (xW cI cL cZ ad tx td dr dy lb pn ps ks si kb))) (va_Qi (fun (r : Int32) (u : XDy × (Nat × Nat) × XSh) => r = (f_X7_clock dy pn ps kk).1 ∧ u = (f_X7_clock dy pn ps kk).2) (fun (u : XDy × (Nat × Nat) × XSh) t => va_P D vwCl (xW cI cL cZ ad tx td dr u.1 lb u.2.1 u.2.2 ks si kb) t.heap) A) 0 0 A := by
  refine Met.ofW (cc := cX7_clock) (maxL := 3) (ret := (some .int)) (by decide) rfl ?_
  intro p e s m args below meth c s₁ B hml hv
  obtain ⟨rfl, hP, hK, hD, hE⟩ := hv
  have hx := B.exec
  have hb := B.bytes
  have hr := B.returns
  have hts := atoms_spec (ws := wsX7_clock) B.pre
  have hown : s.vm.findClass RX7 = some m.cls := findClass_of_methodNamed B.named
  have hlocks := B.notSynchronized
  have hS : va_S A s.heap s.heap [] := va_S.rf
  have hl := lv_entry ([.ref (ad 0), .int kk]) (n := 3) (Nat.le_of_ble_eq_true rfl)
  rw [lg_entry_eq]
  generalize (lg_sl ([.ref (ad 0), .int kk]) ++ List.replicate (3 - (lg_sl ([.ref (ad 0), .int kk])).length) Slot.unset).toArray = ls at hl ⊢
  have hl : lv_has ls 3 [(0, .ref (ad 0)), (1, .int kk)] := hl
  refine lv_iload_n hx hb dX7_clock_0 rfl (lv_at hl 1 rfl) ?_
  refine lv_iconst (v := nI 0) hx hb dX7_clock_1 rfl ?_
  refine lv_bipush (v := nI 9) hx hb dX7_clock_2 rfl ?_
  refine vp_callSi (va_Run.run (va_runS (As := [.int kk, .int (nI 0), .int (nI 9)]) (rest := []) ⟨hx, hb, hml, hown, hts⟩ (c_X7_isWithin l kk (nI 0) (nI 9) ) (va_cwS 3 hts gX7_clock_X7_isWithin rfl rfl rfl (by decide +kernel) ⟨Nat.le_of_ble_eq_true rfl, Nat.le_of_ble_eq_true rfl⟩) ⟨pR_fb, pR_at⟩ rfl rfl hl.1 rfl (lv_room (Nat.le_of_ble_eq_true rfl)) dX7_clock_4 ⟨Nat.zero_le _, Nat.zero_le _⟩)) (fun r hr => ?_)
  subst hr
  refine lv_if_ne (tgt := 13) hx hb dX7_clock_7 (by decide) (fun c_1 => ?_) (fun c_1 => ?_)
  · refine lv_aload_n hx hb dX7_clock_13 rfl (lv_at hl 0 rfl) ?_
    refine va_get (D := D) (ci := 7) (v := .ref (ad 20)) (C := RX7) (T := TX7) (N := 9) hx hb hts (by decide +kernel) hown hK hP 0 rfl rfl 5 (by decide) (hts (.fieldLink RX7 45 "SummitTime" "past" "LSummitTime$Past;") (by decide +kernel)) (fun _ h9 => h9) rfl dX7_clock_14 ?_
    refine lv_aload_n hx hb dX7_clock_17 rfl (lv_at hl 0 rfl) ?_
    refine va_get (D := D) (ci := 7) (v := .ref (ad 15)) (C := RX7) (T := TX7) (N := 9) hx hb hts (by decide +kernel) hown hK hP 0 rfl rfl 3 (by decide) (hts (.fieldLink RX7 29 "SummitTime" "day" "LSummitTime$Day;") (by decide +kernel)) (fun _ h9 => h9) rfl dX7_clock_18 ?_
    refine va_callv (va_runV (As := [.ref (ad 15)]) (rest := []) ⟨hx, hb, hml, hown, hts⟩ (c_X2_record l D cI cL cZ ad A tx td dr dy lb pn ps ks si kb  (by first | assumption | omega) (by first | assumption | omega)) (cwV 1 hts gX7_clock_X2_record rfl rfl rfl (by decide +kernel) ⟨Nat.le_of_ble_eq_true rfl, Nat.le_of_ble_eq_true rfl⟩) ⟨sR_fb, va_recv hK hP (ci := 2) (q0 := 20) rfl rfl, sR_at hP hK hD hE⟩ rfl rfl hl.1 rfl (lv_room (Nat.le_of_ble_eq_true rfl)) dX7_clock_21 ⟨Nat.zero_le _, Nat.zero_le _⟩) hS (fun q _ h => h) (fun q h => h) (fun u t H locs ht hvm hw hB hz1 hk1 hS => ?_)
    subst hw
    rw [ht] at hB
    have hP : va_P D vwCl (xW cI cL cZ ad tx td dr dy lb ((f_X2_record dy pn ps).1) ((f_X2_record dy pn ps).2) ks si kb) H := hB
    have hD : va_D A (xW cI cL cZ ad tx td dr dy lb ((f_X2_record dy pn ps).1) ((f_X2_record dy pn ps).2) ks si kb) := xW_D hD
    refine lv_aload_n hx hb dX7_clock_24 rfl (lv_at hl 0 rfl) ?_
    refine va_get (D := D) (ci := 7) (v := .ref (ad 15)) (C := RX7) (T := TX7) (N := 9) hx hb hts (by decide +kernel) hown hK hP 0 rfl rfl 3 (by decide) (hts (.fieldLink RX7 29 "SummitTime" "day" "LSummitTime$Day;") (by decide +kernel)) (fun _ h9 => h9) rfl dX7_clock_25 ?_
    refine va_getN (D := D) (ci := 0) (v := .int dy.2.2.2) (C := RX0) (T := TX0) (N := 4) hx hb hts (by decide +kernel) hown hK hP 15 rfl rfl 3 (by decide) (va_Nw.use rfl hE.2.2.2.2.2.2.2.2.2.2.2.2.1) (fun _ h9 => h9) rfl dX7_clock_28 ?_
    refine lv_istore_n (lv' := [(2, .int dy.2.2.2), (0, .ref (ad 0)), (1, .int kk)]) hx hb dX7_clock_31 rfl hl (by decide) rfl (fun ls hl => ?_)
    refine lv_aload_n hx hb dX7_clock_32 rfl (lv_at hl 1 rfl) ?_
    refine va_get (D := D) (ci := 7) (v := .ref (ad 15)) (C := RX7) (T := TX7) (N := 9) hx hb hts (by decide +kernel) hown hK hP 0 rfl rfl 3 (by decide) (hts (.fieldLink RX7 29 "SummitTime" "day" "LSummitTime$Day;") (by decide +kernel)) (fun _ h9 => h9) rfl dX7_clock_33 ?_
    refine lv_iload_n hx hb dX7_clock_36 rfl (lv_at hl 2 rfl) ?_
    refine va_putN (D := D) (ci := 0) (v := .int kk) (ty := .int) (C := RX0) (T := TX0) (N := 4) hx hb hts (by decide +kernel) tyX0 tyX0_ok nmX0 hown hK hP hD hS 15 rfl rfl 3 (by decide) (va_Nw.use rfl hE.2.2.2.2.2.2.2.2.2.2.2.2.1) (fun _ h9 => h9) rfl (by decide +kernel) rfl rfl (Nat.le_of_ble_eq_true rfl) dX7_clock_37 (fun H locs hP hD hS => ?_)
    have hP : va_P D vwCl (xW cI cL cZ ad tx td dr (dy.1, dy.2.1, dy.2.2.1, kk) lb ((f_X2_record dy pn ps).1) ((f_X2_record dy pn ps).2) ks si kb) H := hP
    have hD : va_D A (xW cI cL cZ ad tx td dr (dy.1, dy.2.1, dy.2.2.1, kk) lb ((f_X2_record dy pn ps).1) ((f_X2_record dy pn ps).2) ks si kb) := hD
    refine lv_iload_n hx hb dX7_clock_40 rfl (lv_at hl 0 rfl) ?_
    have hf : (f_X7_clock dy pn ps kk) = (dy.2.2.2, (dy.1, dy.2.1, dy.2.2.1, kk), ((f_X2_record dy pn ps).1), ((f_X2_record dy pn ps).2)) := by rw [f_X7_clock, if_neg c_1]
    have hf1 : dy.2.2.2 = (f_X7_clock dy pn ps kk).1 := by rw [hf]
    have hf2 : ((dy.1, dy.2.1, dy.2.2.1, kk), ((f_X2_record dy pn ps).1), ((f_X2_record dy pn ps).2)) = (f_X7_clock dy pn ps kk).2 := by rw [hf]
    exact W.iret (v := dy.2.2.2) hx hb hr (fun t ht hW => ⟨⟨dy.2.2.2, ((dy.1, dy.2.1, dy.2.2.1, kk), ((f_X2_record dy pn ps).1), ((f_X2_record dy pn ps).2)), rfl, ⟨hf1, hf2⟩, va_Pt ht hP⟩, hS.F ht⟩) hS.2.2 dX7_clock_41
  · refine lv_bipush (v := (-3)) hx hb dX7_clock_10 rfl ?_
    have hf : (f_X7_clock dy pn ps kk) = ((-3 : Int32), dy, pn, ps) := by rw [f_X7_clock, if_pos c_1]
    have hf1 : (-3 : Int32) = (f_X7_clock dy pn ps kk).1 := by rw [hf]
    have hf2 : (dy, pn, ps) = (f_X7_clock dy pn ps kk).2 := by rw [hf]
    exact W.iret (v := (-3 : Int32)) hx hb hr (fun t ht hW => ⟨⟨(-3 : Int32), (dy, pn, ps), rfl, ⟨hf1, hf2⟩, va_Pt ht hP⟩, hS.F ht⟩) hS.2.2 dX7_clock_12
def f_X7_halve (td : XTd) (dy : XDy) (pn : (Nat × Nat)) (ps : XSh) (pe : Int32) (ot : Int32) : Int32 × XDy × (Nat × Nat) × XSh := (if (f_X7_areTwo td pe ot) = 0 then ((-2 : Int32), dy, pn, ps) else (if nI 2 ≤ (f_J13_bitCount_95d88 (f_X0_landOf dy pe)) then ((f_J13_bitCount_95d88 (f_X7_eachOther (f_X0_landOf dy pe))), (f_X0_give dy (f_X7_eachOther (f_X0_landOf dy pe)) ot), ((f_X2_record dy pn ps).1), ((f_X2_record dy pn ps).2)) else ((-4 : Int32), dy, pn, ps)))
abbrev rm_X7_halve : Room := { frames := 2, cells := 0, slots := 0, locals := 45 }
set_option maxHeartbeats 4000000 in
set_option maxRecDepth 100000 in
theorem c_X7_halve (l : Launch) (D : va_G) (cI cL cZ : ClassId) (ad : Nat → Nat) (A : Nat → Prop) (tx : XTx) (td : XTd) (dr : XTd) (dy : XDy) (lb : (Nat → Int32)) (pn : (Nat × Nat)) (ps : XSh) (ks : XSh) (si : XSi) (kb : Int32) (pe : Int32) (ot : Int32) (hn : pn.1 < 8) (hh : pn.2 ≤ 8) : Met l yX7_halve wsX7_halve rm_X7_halve (va_Pc [.ref (ad 0), .int pe, .int ot] (sR D cI cL cZ A (xW cI cL cZ ad tx td dr dy lb pn ps ks si kb))) (va_Qi (fun (r : Int32) (u : XDy × (Nat × Nat) × XSh) => r = (f_X7_halve td dy pn ps pe ot).1 ∧ u = (f_X7_halve td dy pn ps pe ot).2) (fun (u : XDy × (Nat × Nat) × XSh) t => va_P D vwCl (xW cI cL cZ ad tx td dr u.1 lb u.2.1 u.2.2 ks si kb) t.heap) A) 0 0 A := by
  refine Met.ofW (cc := cX7_halve) (maxL := 7) (ret := (some .int)) (by decide) rfl ?_
  intro p e s m args below meth c s₁ B hml hv
  obtain ⟨rfl, hP, hK, hD, hE⟩ := hv
  have hx := B.exec
  have hb := B.bytes
  have hr := B.returns
  have hts := atoms_spec (ws := wsX7_halve) B.pre
  have hown : s.vm.findClass RX7 = some m.cls := findClass_of_methodNamed B.named
  have hlocks := B.notSynchronized
  have hS : va_S A s.heap s.heap [] := va_S.rf
  have hl := lv_entry ([.ref (ad 0), .int pe, .int ot]) (n := 7) (Nat.le_of_ble_eq_true rfl)
  rw [lg_entry_eq]
  generalize (lg_sl ([.ref (ad 0), .int pe, .int ot]) ++ List.replicate (7 - (lg_sl ([.ref (ad 0), .int pe, .int ot])).length) Slot.unset).toArray = ls at hl ⊢
  have hl : lv_has ls 7 [(0, .ref (ad 0)), (1, .int pe), (2, .int ot)] := hl
  refine lv_aload_n hx hb dX7_halve_0 rfl (lv_at hl 0 rfl) ?_
  refine lv_iload_n hx hb dX7_halve_1 rfl (lv_at hl 1 rfl) ?_
  refine lv_iload_n hx hb dX7_halve_2 rfl (lv_at hl 2 rfl) ?_
  refine vp_callSi (va_Run.run (va_runV (As := [.int pe, .int ot]) (rest := []) ⟨hx, hb, hml, hown, hts⟩ (c_X7_areTwo l D cI cL cZ ad A tx td dr dy lb pn ps ks si kb pe ot ) (cwV 2 hts gX7_halve_X7_areTwo rfl rfl rfl (by decide +kernel) ⟨Nat.le_of_ble_eq_true rfl, Nat.le_of_ble_eq_true rfl⟩) ⟨sR_fb, va_recv hK hP (ci := 7) (q0 := 0) rfl rfl, sR_at hP hK hD hE⟩ rfl rfl hl.1 rfl (lv_room (Nat.le_of_ble_eq_true rfl)) dX7_halve_3 ⟨Nat.zero_le _, Nat.zero_le _⟩)) (fun r hr => ?_)
  subst hr
  refine lv_if_ne (tgt := 12) hx hb dX7_halve_6 (by decide) (fun c_1 => ?_) (fun c_1 => ?_)
  · refine lv_aload_n hx hb dX7_halve_12 rfl (lv_at hl 0 rfl) ?_
    refine va_get (D := D) (ci := 7) (v := .ref (ad 15)) (C := RX7) (T := TX7) (N := 9) hx hb hts (by decide +kernel) hown hK hP 0 rfl rfl 3 (by decide) (hts (.fieldLink RX7 29 "SummitTime" "day" "LSummitTime$Day;") (by decide +kernel)) (fun _ h9 => h9) rfl dX7_halve_13 ?_
    refine lv_iload_n hx hb dX7_halve_16 rfl (lv_at hl 1 rfl) ?_
    refine vp_callSl (va_Run.run (va_runV (As := [.int pe]) (rest := []) ⟨hx, hb, hml, hown, hts⟩ (c_X0_landOf l D cI cL cZ ad A tx td dr dy lb pn ps ks si kb pe ) (cwV 1 hts gX7_halve_X0_landOf rfl rfl rfl (by decide +kernel) ⟨Nat.le_of_ble_eq_true rfl, Nat.le_of_ble_eq_true rfl⟩) ⟨sR_fb, va_recv hK hP (ci := 0) (q0 := 15) rfl rfl, sR_at hP hK hD hE⟩ rfl rfl hl.1 rfl (lv_room (Nat.le_of_ble_eq_true rfl)) dX7_halve_17 ⟨Nat.zero_le _, Nat.zero_le _⟩)) (fun r hr => ?_)
    subst hr
    refine lv_lstore_n (lv' := [(3, .long (f_X0_landOf dy pe)), (0, .ref (ad 0)), (1, .int pe), (2, .int ot)]) hx hb dX7_halve_20 rfl hl (by decide) rfl (fun ls hl => ?_)
    refine lv_lload_n hx hb dX7_halve_21 rfl (lv_at hl 0 rfl) ?_
    refine vp_callSi (va_Run.run (va_runS (As := [.long (f_X0_landOf dy pe)]) (rest := []) ⟨hx, hb, hml, hown, hts⟩ (c_J13_bitCount_95d88 l (f_X0_landOf dy pe) ) (va_cwS 1 hts gX7_halve_J13_bitCount_95d88 rfl rfl rfl (by decide +kernel) ⟨Nat.le_of_ble_eq_true rfl, Nat.le_of_ble_eq_true rfl⟩) ⟨pR_fb, pR_at⟩ rfl rfl hl.1 rfl (lv_room (Nat.le_of_ble_eq_true rfl)) dX7_halve_22 ⟨Nat.zero_le _, Nat.zero_le _⟩)) (fun r hr => ?_)
    subst hr
    refine lv_iconst (v := nI 2) hx hb dX7_halve_25 rfl ?_
    refine lv_icmp_ge (tgt := 32) hx hb dX7_halve_26 (by decide) (fun c_2 => ?_) (fun c_2 => ?_)
    · refine lv_aload_n hx hb dX7_halve_32 rfl (lv_at hl 1 rfl) ?_
      refine va_get (D := D) (ci := 7) (v := .ref (ad 20)) (C := RX7) (T := TX7) (N := 9) hx hb hts (by decide +kernel) hown hK hP 0 rfl rfl 5 (by decide) (hts (.fieldLink RX7 45 "SummitTime" "past" "LSummitTime$Past;") (by decide +kernel)) (fun _ h9 => h9) rfl dX7_halve_33 ?_
      refine lv_aload_n hx hb dX7_halve_36 rfl (lv_at hl 1 rfl) ?_
      refine va_get (D := D) (ci := 7) (v := .ref (ad 15)) (C := RX7) (T := TX7) (N := 9) hx hb hts (by decide +kernel) hown hK hP 0 rfl rfl 3 (by decide) (hts (.fieldLink RX7 29 "SummitTime" "day" "LSummitTime$Day;") (by decide +kernel)) (fun _ h9 => h9) rfl dX7_halve_37 ?_
      refine va_callv (va_runV (As := [.ref (ad 15)]) (rest := []) ⟨hx, hb, hml, hown, hts⟩ (c_X2_record l D cI cL cZ ad A tx td dr dy lb pn ps ks si kb  (by first | assumption | omega) (by first | assumption | omega)) (cwV 1 hts gX7_halve_X2_record rfl rfl rfl (by decide +kernel) ⟨Nat.le_of_ble_eq_true rfl, Nat.le_of_ble_eq_true rfl⟩) ⟨sR_fb, va_recv hK hP (ci := 2) (q0 := 20) rfl rfl, sR_at hP hK hD hE⟩ rfl rfl hl.1 rfl (lv_room (Nat.le_of_ble_eq_true rfl)) dX7_halve_40 ⟨Nat.zero_le _, Nat.zero_le _⟩) hS (fun q _ h => h) (fun q h => h) (fun u t H locs ht hvm hw hB hz1 hk1 hS => ?_)
      subst hw
      rw [ht] at hB
      have hP : va_P D vwCl (xW cI cL cZ ad tx td dr dy lb ((f_X2_record dy pn ps).1) ((f_X2_record dy pn ps).2) ks si kb) H := hB
      have hD : va_D A (xW cI cL cZ ad tx td dr dy lb ((f_X2_record dy pn ps).1) ((f_X2_record dy pn ps).2) ks si kb) := xW_D hD
      refine lv_lload_n hx hb dX7_halve_43 rfl (lv_at hl 0 rfl) ?_
      refine vp_callSl (va_Run.run (va_runS (As := [.long (f_X0_landOf dy pe)]) (rest := []) ⟨hx, hb, hml, hown, hts⟩ (c_X7_eachOther l (f_X0_landOf dy pe) ) (va_cwS 1 hts gX7_halve_X7_eachOther rfl rfl rfl (by decide +kernel) ⟨Nat.le_of_ble_eq_true rfl, Nat.le_of_ble_eq_true rfl⟩) ⟨pR_fb, pR_at⟩ rfl rfl hl.1 rfl (lv_room (Nat.le_of_ble_eq_true rfl)) dX7_halve_44 ⟨Nat.zero_le _, Nat.zero_le _⟩)) (fun r hr => ?_)
      subst hr
      refine lv_lstore (lv' := [(5, .long (f_X7_eachOther (f_X0_landOf dy pe))), (3, .long (f_X0_landOf dy pe)), (0, .ref (ad 0)), (1, .int pe), (2, .int ot)]) hx hb dX7_halve_47 hl (by decide) rfl (fun ls hl => ?_)
      refine lv_aload_n hx hb dX7_halve_49 rfl (lv_at hl 2 rfl) ?_
      refine va_get (D := D) (ci := 7) (v := .ref (ad 15)) (C := RX7) (T := TX7) (N := 9) hx hb hts (by decide +kernel) hown hK hP 0 rfl rfl 3 (by decide) (hts (.fieldLink RX7 29 "SummitTime" "day" "LSummitTime$Day;") (by decide +kernel)) (fun _ h9 => h9) rfl dX7_halve_50 ?_
      refine lv_lload hx hb dX7_halve_53 (lv_at hl 0 rfl) ?_
      refine lv_iload_n hx hb dX7_halve_55 rfl (lv_at hl 4 rfl) ?_
      refine va_callv (va_runV (As := [.long (f_X7_eachOther (f_X0_landOf dy pe)), .int ot]) (rest := []) ⟨hx, hb, hml, hown, hts⟩ (c_X0_give l D cI cL cZ ad A tx td dr dy lb ((f_X2_record dy pn ps).1) ((f_X2_record dy pn ps).2) ks si kb (f_X7_eachOther (f_X0_landOf dy pe)) ot ) (cwV 2 hts gX7_halve_X0_give rfl rfl rfl (by decide +kernel) ⟨Nat.le_of_ble_eq_true rfl, Nat.le_of_ble_eq_true rfl⟩) ⟨sR_fb, va_recv hK hP (ci := 0) (q0 := 15) rfl rfl, sR_at hP hK hD hE⟩ rfl rfl hl.1 rfl (lv_room (Nat.le_of_ble_eq_true rfl)) dX7_halve_56 ⟨Nat.zero_le _, Nat.zero_le _⟩) hS (fun q _ h => h) (fun q h => h) (fun u t H locs ht hvm hw hB hz1 hk1 hS => ?_)
      subst hw
      rw [ht] at hB
      have hP : va_P D vwCl (xW cI cL cZ ad tx td dr (f_X0_give dy (f_X7_eachOther (f_X0_landOf dy pe)) ot) lb ((f_X2_record dy pn ps).1) ((f_X2_record dy pn ps).2) ks si kb) H := hB
      have hD : va_D A (xW cI cL cZ ad tx td dr (f_X0_give dy (f_X7_eachOther (f_X0_landOf dy pe)) ot) lb ((f_X2_record dy pn ps).1) ((f_X2_record dy pn ps).2) ks si kb) := xW_D hD
      refine lv_lload hx hb dX7_halve_59 (lv_at hl 0 rfl) ?_
      refine vp_callSi (va_Run.run (va_runS (As := [.long (f_X7_eachOther (f_X0_landOf dy pe))]) (rest := []) ⟨hx, hb, hml, hown, hts⟩ (c_J13_bitCount_95d88 l (f_X7_eachOther (f_X0_landOf dy pe)) ) (va_cwS 1 hts gX7_halve_J13_bitCount_95d88 rfl rfl rfl (by decide +kernel) ⟨Nat.le_of_ble_eq_true rfl, Nat.le_of_ble_eq_true rfl⟩) ⟨pR_fb, pR_at⟩ rfl rfl hl.1 rfl (lv_room (Nat.le_of_ble_eq_true rfl)) dX7_halve_61 ⟨Nat.zero_le _, Nat.zero_le _⟩)) (fun r hr => ?_)
      subst hr
      have hf : (f_X7_halve td dy pn ps pe ot) = ((f_J13_bitCount_95d88 (f_X7_eachOther (f_X0_landOf dy pe))), (f_X0_give dy (f_X7_eachOther (f_X0_landOf dy pe)) ot), ((f_X2_record dy pn ps).1), ((f_X2_record dy pn ps).2)) := by rw [f_X7_halve, if_neg c_1, if_pos c_2]
      have hf1 : (f_J13_bitCount_95d88 (f_X7_eachOther (f_X0_landOf dy pe))) = (f_X7_halve td dy pn ps pe ot).1 := by rw [hf]
      have hf2 : ((f_X0_give dy (f_X7_eachOther (f_X0_landOf dy pe)) ot), ((f_X2_record dy pn ps).1), ((f_X2_record dy pn ps).2)) = (f_X7_halve td dy pn ps pe ot).2 := by rw [hf]
      exact W.iret (v := (f_J13_bitCount_95d88 (f_X7_eachOther (f_X0_landOf dy pe)))) hx hb hr (fun t ht hW => ⟨⟨(f_J13_bitCount_95d88 (f_X7_eachOther (f_X0_landOf dy pe))), ((f_X0_give dy (f_X7_eachOther (f_X0_landOf dy pe)) ot), ((f_X2_record dy pn ps).1), ((f_X2_record dy pn ps).2)), rfl, ⟨hf1, hf2⟩, va_Pt ht hP⟩, hS.F ht⟩) hS.2.2 dX7_halve_64
    · refine lv_bipush (v := (-4)) hx hb dX7_halve_29 rfl ?_
      have hf : (f_X7_halve td dy pn ps pe ot) = ((-4 : Int32), dy, pn, ps) := by rw [f_X7_halve, if_neg c_1, if_neg c_2]
      have hf1 : (-4 : Int32) = (f_X7_halve td dy pn ps pe ot).1 := by rw [hf]
      have hf2 : (dy, pn, ps) = (f_X7_halve td dy pn ps pe ot).2 := by rw [hf]
      exact W.iret (v := (-4 : Int32)) hx hb hr (fun t ht hW => ⟨⟨(-4 : Int32), (dy, pn, ps), rfl, ⟨hf1, hf2⟩, va_Pt ht hP⟩, hS.F ht⟩) hS.2.2 dX7_halve_31
  · refine lv_bipush (v := (-2)) hx hb dX7_halve_9 rfl ?_
    have hf : (f_X7_halve td dy pn ps pe ot) = ((-2 : Int32), dy, pn, ps) := by rw [f_X7_halve, if_pos c_1]
    have hf1 : (-2 : Int32) = (f_X7_halve td dy pn ps pe ot).1 := by rw [hf]
    have hf2 : (dy, pn, ps) = (f_X7_halve td dy pn ps pe ot).2 := by rw [hf]
    exact W.iret (v := (-2 : Int32)) hx hb hr (fun t ht hW => ⟨⟨(-2 : Int32), (dy, pn, ps), rfl, ⟨hf1, hf2⟩, va_Pt ht hP⟩, hS.F ht⟩) hS.2.2 dX7_halve_11
def f_X7_sell (td : XTd) (dy : XDy) (pn : (Nat × Nat)) (ps : XSh) (sec : Int32) (pe : Int32) : Int32 × XDy × (Nat × Nat) × XSh := (if pe = (-1 : Int32) then (if (f_X7_isWithin sec (nI 0) (nI 59)) = 0 then ((-3 : Int32), dy, pn, ps) else (if (f_X0_ownerOf dy sec) = pe then ((-4 : Int32), dy, pn, ps) else ((f_X0_ownerOf dy sec), (f_X0_give dy ((1 : Int64) <<< (sec.toInt64 &&& 63)) pe), ((f_X2_record dy pn ps).1), ((f_X2_record dy pn ps).2)))) else (if (f_X6_knows td pe) = 0 then ((-2 : Int32), dy, pn, ps) else (if (f_X7_isWithin sec (nI 0) (nI 59)) = 0 then ((-3 : Int32), dy, pn, ps) else (if (f_X0_ownerOf dy sec) = pe then ((-4 : Int32), dy, pn, ps) else ((f_X0_ownerOf dy sec), (f_X0_give dy ((1 : Int64) <<< (sec.toInt64 &&& 63)) pe), ((f_X2_record dy pn ps).1), ((f_X2_record dy pn ps).2))))))
abbrev rm_X7_sell : Room := { frames := 2, cells := 0, slots := 0, locals := 45 }
set_option maxHeartbeats 4000000 in
set_option maxRecDepth 100000 in
theorem c_X7_sell (l : Launch) (D : va_G) (cI cL cZ : ClassId) (ad : Nat → Nat) (A : Nat → Prop) (tx : XTx) (td : XTd) (dr : XTd) (dy : XDy) (lb : (Nat → Int32)) (pn : (Nat × Nat)) (ps : XSh) (ks : XSh) (si : XSi) (kb : Int32) (sec : Int32) (pe : Int32) (hn : pn.1 < 8) (hh : pn.2 ≤ 8) : Met l yX7_sell wsX7_sell rm_X7_sell (va_Pc [.ref (ad 0), .int sec, .int pe] (sR D cI cL cZ A (xW cI cL cZ ad tx td dr dy lb pn ps ks si kb))) (va_Qi (fun (r : Int32) (u : XDy × (Nat × Nat) × XSh) => r = (f_X7_sell td dy pn ps sec pe).1 ∧ u = (f_X7_sell td dy pn ps sec pe).2) (fun (u : XDy × (Nat × Nat) × XSh) t => va_P D vwCl (xW cI cL cZ ad tx td dr u.1 lb u.2.1 u.2.2 ks si kb) t.heap) A) 0 0 A := by
  refine Met.ofW (cc := cX7_sell) (maxL := 4) (ret := (some .int)) (by decide) rfl ?_
  intro p e s m args below meth c s₁ B hml hv
  obtain ⟨rfl, hP, hK, hD, hE⟩ := hv
  have hx := B.exec
  have hb := B.bytes
  have hr := B.returns
  have hts := atoms_spec (ws := wsX7_sell) B.pre
  have hown : s.vm.findClass RX7 = some m.cls := findClass_of_methodNamed B.named
  have hlocks := B.notSynchronized
  have hS : va_S A s.heap s.heap [] := va_S.rf
  have hl := lv_entry ([.ref (ad 0), .int sec, .int pe]) (n := 4) (Nat.le_of_ble_eq_true rfl)
  rw [lg_entry_eq]
  generalize (lg_sl ([.ref (ad 0), .int sec, .int pe]) ++ List.replicate (4 - (lg_sl ([.ref (ad 0), .int sec, .int pe])).length) Slot.unset).toArray = ls at hl ⊢
  have hl : lv_has ls 4 [(0, .ref (ad 0)), (1, .int sec), (2, .int pe)] := hl
  refine lv_iload_n hx hb dX7_sell_0 rfl (lv_at hl 2 rfl) ?_
  refine lv_iconst (v := (-1)) hx hb dX7_sell_1 rfl ?_
  refine lv_icmp_eq (tgt := 19) hx hb dX7_sell_2 (by decide) (fun c_1 => ?_) (fun c_1 => ?_)
  · refine lv_iload_n hx hb dX7_sell_19 rfl (lv_at hl 1 rfl) ?_
    refine lv_iconst (v := nI 0) hx hb dX7_sell_20 rfl ?_
    refine lv_bipush (v := nI 59) hx hb dX7_sell_21 rfl ?_
    refine vp_callSi (va_Run.run (va_runS (As := [.int sec, .int (nI 0), .int (nI 59)]) (rest := []) ⟨hx, hb, hml, hown, hts⟩ (c_X7_isWithin l sec (nI 0) (nI 59) ) (va_cwS 3 hts gX7_sell_X7_isWithin rfl rfl rfl (by decide +kernel) ⟨Nat.le_of_ble_eq_true rfl, Nat.le_of_ble_eq_true rfl⟩) ⟨pR_fb, pR_at⟩ rfl rfl hl.1 rfl (lv_room (Nat.le_of_ble_eq_true rfl)) dX7_sell_23 ⟨Nat.zero_le _, Nat.zero_le _⟩)) (fun r hr => ?_)
    subst hr
    refine lv_if_ne (tgt := 32) hx hb dX7_sell_26 (by decide) (fun c_2 => ?_) (fun c_2 => ?_)
    · refine lv_aload_n hx hb dX7_sell_32 rfl (lv_at hl 0 rfl) ?_
      refine va_get (D := D) (ci := 7) (v := .ref (ad 15)) (C := RX7) (T := TX7) (N := 9) hx hb hts (by decide +kernel) hown hK hP 0 rfl rfl 3 (by decide) (hts (.fieldLink RX7 29 "SummitTime" "day" "LSummitTime$Day;") (by decide +kernel)) (fun _ h9 => h9) rfl dX7_sell_33 ?_
      refine lv_iload_n hx hb dX7_sell_36 rfl (lv_at hl 1 rfl) ?_
      refine vp_callSi (va_Run.run (va_runV (As := [.int sec]) (rest := []) ⟨hx, hb, hml, hown, hts⟩ (c_X0_ownerOf l D cI cL cZ ad A tx td dr dy lb pn ps ks si kb sec ) (cwV 1 hts gX7_sell_X0_ownerOf rfl rfl rfl (by decide +kernel) ⟨Nat.le_of_ble_eq_true rfl, Nat.le_of_ble_eq_true rfl⟩) ⟨sR_fb, va_recv hK hP (ci := 0) (q0 := 15) rfl rfl, sR_at hP hK hD hE⟩ rfl rfl hl.1 rfl (lv_room (Nat.le_of_ble_eq_true rfl)) dX7_sell_37 ⟨Nat.zero_le _, Nat.zero_le _⟩)) (fun r hr => ?_)
      subst hr
      refine lv_istore_n (lv' := [(3, .int (f_X0_ownerOf dy sec)), (0, .ref (ad 0)), (1, .int sec), (2, .int pe)]) hx hb dX7_sell_40 rfl hl (by decide) rfl (fun ls hl => ?_)
      refine lv_iload_n hx hb dX7_sell_41 rfl (lv_at hl 0 rfl) ?_
      refine lv_iload_n hx hb dX7_sell_42 rfl (lv_at hl 3 rfl) ?_
      refine lv_icmp_ne (tgt := 49) hx hb dX7_sell_43 (by decide) (fun c_3 => ?_) (fun c_3 => ?_)
      · refine lv_aload_n hx hb dX7_sell_49 rfl (lv_at hl 1 rfl) ?_
        refine va_get (D := D) (ci := 7) (v := .ref (ad 20)) (C := RX7) (T := TX7) (N := 9) hx hb hts (by decide +kernel) hown hK hP 0 rfl rfl 5 (by decide) (hts (.fieldLink RX7 45 "SummitTime" "past" "LSummitTime$Past;") (by decide +kernel)) (fun _ h9 => h9) rfl dX7_sell_50 ?_
        refine lv_aload_n hx hb dX7_sell_53 rfl (lv_at hl 1 rfl) ?_
        refine va_get (D := D) (ci := 7) (v := .ref (ad 15)) (C := RX7) (T := TX7) (N := 9) hx hb hts (by decide +kernel) hown hK hP 0 rfl rfl 3 (by decide) (hts (.fieldLink RX7 29 "SummitTime" "day" "LSummitTime$Day;") (by decide +kernel)) (fun _ h9 => h9) rfl dX7_sell_54 ?_
        refine va_callv (va_runV (As := [.ref (ad 15)]) (rest := []) ⟨hx, hb, hml, hown, hts⟩ (c_X2_record l D cI cL cZ ad A tx td dr dy lb pn ps ks si kb  (by first | assumption | omega) (by first | assumption | omega)) (cwV 1 hts gX7_sell_X2_record rfl rfl rfl (by decide +kernel) ⟨Nat.le_of_ble_eq_true rfl, Nat.le_of_ble_eq_true rfl⟩) ⟨sR_fb, va_recv hK hP (ci := 2) (q0 := 20) rfl rfl, sR_at hP hK hD hE⟩ rfl rfl hl.1 rfl (lv_room (Nat.le_of_ble_eq_true rfl)) dX7_sell_57 ⟨Nat.zero_le _, Nat.zero_le _⟩) hS (fun q _ h => h) (fun q h => h) (fun u t H locs ht hvm hw hB hz1 hk1 hS => ?_)
        subst hw
        rw [ht] at hB
        have hP : va_P D vwCl (xW cI cL cZ ad tx td dr dy lb ((f_X2_record dy pn ps).1) ((f_X2_record dy pn ps).2) ks si kb) H := hB
        have hD : va_D A (xW cI cL cZ ad tx td dr dy lb ((f_X2_record dy pn ps).1) ((f_X2_record dy pn ps).2) ks si kb) := xW_D hD
        refine lv_aload_n hx hb dX7_sell_60 rfl (lv_at hl 1 rfl) ?_
        refine va_get (D := D) (ci := 7) (v := .ref (ad 15)) (C := RX7) (T := TX7) (N := 9) hx hb hts (by decide +kernel) hown hK hP 0 rfl rfl 3 (by decide) (hts (.fieldLink RX7 29 "SummitTime" "day" "LSummitTime$Day;") (by decide +kernel)) (fun _ h9 => h9) rfl dX7_sell_61 ?_
        refine lv_lconst (v := 1) hx hb dX7_sell_64 rfl ?_
        refine lv_iload_n hx hb dX7_sell_65 rfl (lv_at hl 2 rfl) ?_
        refine lv_lshl hx hb dX7_sell_66 rfl ?_
        refine lv_iload_n hx hb dX7_sell_67 rfl (lv_at hl 3 rfl) ?_
        refine va_callv (va_runV (As := [.long ((1 : Int64) <<< (sec.toInt64 &&& 63)), .int pe]) (rest := []) ⟨hx, hb, hml, hown, hts⟩ (c_X0_give l D cI cL cZ ad A tx td dr dy lb ((f_X2_record dy pn ps).1) ((f_X2_record dy pn ps).2) ks si kb ((1 : Int64) <<< (sec.toInt64 &&& 63)) pe ) (cwV 2 hts gX7_sell_X0_give rfl rfl rfl (by decide +kernel) ⟨Nat.le_of_ble_eq_true rfl, Nat.le_of_ble_eq_true rfl⟩) ⟨sR_fb, va_recv hK hP (ci := 0) (q0 := 15) rfl rfl, sR_at hP hK hD hE⟩ rfl rfl hl.1 rfl (lv_room (Nat.le_of_ble_eq_true rfl)) dX7_sell_68 ⟨Nat.zero_le _, Nat.zero_le _⟩) hS (fun q _ h => h) (fun q h => h) (fun u t H locs ht hvm hw hB hz1 hk1 hS => ?_)
        subst hw
        rw [ht] at hB
        have hP : va_P D vwCl (xW cI cL cZ ad tx td dr (f_X0_give dy ((1 : Int64) <<< (sec.toInt64 &&& 63)) pe) lb ((f_X2_record dy pn ps).1) ((f_X2_record dy pn ps).2) ks si kb) H := hB
        have hD : va_D A (xW cI cL cZ ad tx td dr (f_X0_give dy ((1 : Int64) <<< (sec.toInt64 &&& 63)) pe) lb ((f_X2_record dy pn ps).1) ((f_X2_record dy pn ps).2) ks si kb) := xW_D hD
        refine lv_iload_n hx hb dX7_sell_71 rfl (lv_at hl 0 rfl) ?_
        have hf : (f_X7_sell td dy pn ps sec pe) = ((f_X0_ownerOf dy sec), (f_X0_give dy ((1 : Int64) <<< (sec.toInt64 &&& 63)) pe), ((f_X2_record dy pn ps).1), ((f_X2_record dy pn ps).2)) := by rw [f_X7_sell, if_pos c_1, if_neg c_2, if_neg c_3]
        have hf1 : (f_X0_ownerOf dy sec) = (f_X7_sell td dy pn ps sec pe).1 := by rw [hf]
        have hf2 : ((f_X0_give dy ((1 : Int64) <<< (sec.toInt64 &&& 63)) pe), ((f_X2_record dy pn ps).1), ((f_X2_record dy pn ps).2)) = (f_X7_sell td dy pn ps sec pe).2 := by rw [hf]
        exact W.iret (v := (f_X0_ownerOf dy sec)) hx hb hr (fun t ht hW => ⟨⟨(f_X0_ownerOf dy sec), ((f_X0_give dy ((1 : Int64) <<< (sec.toInt64 &&& 63)) pe), ((f_X2_record dy pn ps).1), ((f_X2_record dy pn ps).2)), rfl, ⟨hf1, hf2⟩, va_Pt ht hP⟩, hS.F ht⟩) hS.2.2 dX7_sell_72
      · refine lv_bipush (v := (-4)) hx hb dX7_sell_46 rfl ?_
        have hf : (f_X7_sell td dy pn ps sec pe) = ((-4 : Int32), dy, pn, ps) := by rw [f_X7_sell, if_pos c_1, if_neg c_2, if_pos c_3]
        have hf1 : (-4 : Int32) = (f_X7_sell td dy pn ps sec pe).1 := by rw [hf]
        have hf2 : (dy, pn, ps) = (f_X7_sell td dy pn ps sec pe).2 := by rw [hf]
        exact W.iret (v := (-4 : Int32)) hx hb hr (fun t ht hW => ⟨⟨(-4 : Int32), (dy, pn, ps), rfl, ⟨hf1, hf2⟩, va_Pt ht hP⟩, hS.F ht⟩) hS.2.2 dX7_sell_48
    · refine lv_bipush (v := (-3)) hx hb dX7_sell_29 rfl ?_
      have hf : (f_X7_sell td dy pn ps sec pe) = ((-3 : Int32), dy, pn, ps) := by rw [f_X7_sell, if_pos c_1, if_pos c_2]
      have hf1 : (-3 : Int32) = (f_X7_sell td dy pn ps sec pe).1 := by rw [hf]
      have hf2 : (dy, pn, ps) = (f_X7_sell td dy pn ps sec pe).2 := by rw [hf]
      exact W.iret (v := (-3 : Int32)) hx hb hr (fun t ht hW => ⟨⟨(-3 : Int32), (dy, pn, ps), rfl, ⟨hf1, hf2⟩, va_Pt ht hP⟩, hS.F ht⟩) hS.2.2 dX7_sell_31
  · refine lv_aload_n hx hb dX7_sell_5 rfl (lv_at hl 0 rfl) ?_
    refine va_get (D := D) (ci := 7) (v := .ref (ad 3)) (C := RX7) (T := TX7) (N := 9) hx hb hts (by decide +kernel) hown hK hP 0 rfl rfl 1 (by decide) (hts (.fieldLink RX7 19 "SummitTime" "told" "LSummitTime$Told;") (by decide +kernel)) (fun _ h9 => h9) rfl dX7_sell_6 ?_
    refine lv_iload_n hx hb dX7_sell_9 rfl (lv_at hl 2 rfl) ?_
    refine vp_callSi (va_Run.run (va_runV (As := [.int pe]) (rest := []) ⟨hx, hb, hml, hown, hts⟩ (c_X6_knows l D cI cL cZ ad A tx td dr dy lb pn ps ks si kb pe ) (cwV 1 hts gX7_sell_X6_knows rfl rfl rfl (by decide +kernel) ⟨Nat.le_of_ble_eq_true rfl, Nat.le_of_ble_eq_true rfl⟩) ⟨sR_fb, va_recv hK hP (ci := 6) (q0 := 3) rfl rfl, sR_at hP hK hD hE⟩ rfl rfl hl.1 rfl (lv_room (Nat.le_of_ble_eq_true rfl)) dX7_sell_10 ⟨Nat.zero_le _, Nat.zero_le _⟩)) (fun r hr => ?_)
    subst hr
    refine lv_if_ne (tgt := 19) hx hb dX7_sell_13 (by decide) (fun c_4 => ?_) (fun c_4 => ?_)
    · refine lv_iload_n hx hb dX7_sell_19 rfl (lv_at hl 1 rfl) ?_
      refine lv_iconst (v := nI 0) hx hb dX7_sell_20 rfl ?_
      refine lv_bipush (v := nI 59) hx hb dX7_sell_21 rfl ?_
      refine vp_callSi (va_Run.run (va_runS (As := [.int sec, .int (nI 0), .int (nI 59)]) (rest := []) ⟨hx, hb, hml, hown, hts⟩ (c_X7_isWithin l sec (nI 0) (nI 59) ) (va_cwS 3 hts gX7_sell_X7_isWithin rfl rfl rfl (by decide +kernel) ⟨Nat.le_of_ble_eq_true rfl, Nat.le_of_ble_eq_true rfl⟩) ⟨pR_fb, pR_at⟩ rfl rfl hl.1 rfl (lv_room (Nat.le_of_ble_eq_true rfl)) dX7_sell_23 ⟨Nat.zero_le _, Nat.zero_le _⟩)) (fun r hr => ?_)
      subst hr
      refine lv_if_ne (tgt := 32) hx hb dX7_sell_26 (by decide) (fun c_5 => ?_) (fun c_5 => ?_)
      · refine lv_aload_n hx hb dX7_sell_32 rfl (lv_at hl 0 rfl) ?_
        refine va_get (D := D) (ci := 7) (v := .ref (ad 15)) (C := RX7) (T := TX7) (N := 9) hx hb hts (by decide +kernel) hown hK hP 0 rfl rfl 3 (by decide) (hts (.fieldLink RX7 29 "SummitTime" "day" "LSummitTime$Day;") (by decide +kernel)) (fun _ h9 => h9) rfl dX7_sell_33 ?_
        refine lv_iload_n hx hb dX7_sell_36 rfl (lv_at hl 1 rfl) ?_
        refine vp_callSi (va_Run.run (va_runV (As := [.int sec]) (rest := []) ⟨hx, hb, hml, hown, hts⟩ (c_X0_ownerOf l D cI cL cZ ad A tx td dr dy lb pn ps ks si kb sec ) (cwV 1 hts gX7_sell_X0_ownerOf rfl rfl rfl (by decide +kernel) ⟨Nat.le_of_ble_eq_true rfl, Nat.le_of_ble_eq_true rfl⟩) ⟨sR_fb, va_recv hK hP (ci := 0) (q0 := 15) rfl rfl, sR_at hP hK hD hE⟩ rfl rfl hl.1 rfl (lv_room (Nat.le_of_ble_eq_true rfl)) dX7_sell_37 ⟨Nat.zero_le _, Nat.zero_le _⟩)) (fun r hr => ?_)
        subst hr
        refine lv_istore_n (lv' := [(3, .int (f_X0_ownerOf dy sec)), (0, .ref (ad 0)), (1, .int sec), (2, .int pe)]) hx hb dX7_sell_40 rfl hl (by decide) rfl (fun ls hl => ?_)
        refine lv_iload_n hx hb dX7_sell_41 rfl (lv_at hl 0 rfl) ?_
        refine lv_iload_n hx hb dX7_sell_42 rfl (lv_at hl 3 rfl) ?_
        refine lv_icmp_ne (tgt := 49) hx hb dX7_sell_43 (by decide) (fun c_6 => ?_) (fun c_6 => ?_)
        · refine lv_aload_n hx hb dX7_sell_49 rfl (lv_at hl 1 rfl) ?_
          refine va_get (D := D) (ci := 7) (v := .ref (ad 20)) (C := RX7) (T := TX7) (N := 9) hx hb hts (by decide +kernel) hown hK hP 0 rfl rfl 5 (by decide) (hts (.fieldLink RX7 45 "SummitTime" "past" "LSummitTime$Past;") (by decide +kernel)) (fun _ h9 => h9) rfl dX7_sell_50 ?_
          refine lv_aload_n hx hb dX7_sell_53 rfl (lv_at hl 1 rfl) ?_
          refine va_get (D := D) (ci := 7) (v := .ref (ad 15)) (C := RX7) (T := TX7) (N := 9) hx hb hts (by decide +kernel) hown hK hP 0 rfl rfl 3 (by decide) (hts (.fieldLink RX7 29 "SummitTime" "day" "LSummitTime$Day;") (by decide +kernel)) (fun _ h9 => h9) rfl dX7_sell_54 ?_
          refine va_callv (va_runV (As := [.ref (ad 15)]) (rest := []) ⟨hx, hb, hml, hown, hts⟩ (c_X2_record l D cI cL cZ ad A tx td dr dy lb pn ps ks si kb  (by first | assumption | omega) (by first | assumption | omega)) (cwV 1 hts gX7_sell_X2_record rfl rfl rfl (by decide +kernel) ⟨Nat.le_of_ble_eq_true rfl, Nat.le_of_ble_eq_true rfl⟩) ⟨sR_fb, va_recv hK hP (ci := 2) (q0 := 20) rfl rfl, sR_at hP hK hD hE⟩ rfl rfl hl.1 rfl (lv_room (Nat.le_of_ble_eq_true rfl)) dX7_sell_57 ⟨Nat.zero_le _, Nat.zero_le _⟩) hS (fun q _ h => h) (fun q h => h) (fun u t H locs ht hvm hw hB hz1 hk1 hS => ?_)
          subst hw
          rw [ht] at hB
          have hP : va_P D vwCl (xW cI cL cZ ad tx td dr dy lb ((f_X2_record dy pn ps).1) ((f_X2_record dy pn ps).2) ks si kb) H := hB
          have hD : va_D A (xW cI cL cZ ad tx td dr dy lb ((f_X2_record dy pn ps).1) ((f_X2_record dy pn ps).2) ks si kb) := xW_D hD
          refine lv_aload_n hx hb dX7_sell_60 rfl (lv_at hl 1 rfl) ?_
          refine va_get (D := D) (ci := 7) (v := .ref (ad 15)) (C := RX7) (T := TX7) (N := 9) hx hb hts (by decide +kernel) hown hK hP 0 rfl rfl 3 (by decide) (hts (.fieldLink RX7 29 "SummitTime" "day" "LSummitTime$Day;") (by decide +kernel)) (fun _ h9 => h9) rfl dX7_sell_61 ?_
          refine lv_lconst (v := 1) hx hb dX7_sell_64 rfl ?_
          refine lv_iload_n hx hb dX7_sell_65 rfl (lv_at hl 2 rfl) ?_
          refine lv_lshl hx hb dX7_sell_66 rfl ?_
          refine lv_iload_n hx hb dX7_sell_67 rfl (lv_at hl 3 rfl) ?_
          refine va_callv (va_runV (As := [.long ((1 : Int64) <<< (sec.toInt64 &&& 63)), .int pe]) (rest := []) ⟨hx, hb, hml, hown, hts⟩ (c_X0_give l D cI cL cZ ad A tx td dr dy lb ((f_X2_record dy pn ps).1) ((f_X2_record dy pn ps).2) ks si kb ((1 : Int64) <<< (sec.toInt64 &&& 63)) pe ) (cwV 2 hts gX7_sell_X0_give rfl rfl rfl (by decide +kernel) ⟨Nat.le_of_ble_eq_true rfl, Nat.le_of_ble_eq_true rfl⟩) ⟨sR_fb, va_recv hK hP (ci := 0) (q0 := 15) rfl rfl, sR_at hP hK hD hE⟩ rfl rfl hl.1 rfl (lv_room (Nat.le_of_ble_eq_true rfl)) dX7_sell_68 ⟨Nat.zero_le _, Nat.zero_le _⟩) hS (fun q _ h => h) (fun q h => h) (fun u t H locs ht hvm hw hB hz1 hk1 hS => ?_)
          subst hw
          rw [ht] at hB
          have hP : va_P D vwCl (xW cI cL cZ ad tx td dr (f_X0_give dy ((1 : Int64) <<< (sec.toInt64 &&& 63)) pe) lb ((f_X2_record dy pn ps).1) ((f_X2_record dy pn ps).2) ks si kb) H := hB
          have hD : va_D A (xW cI cL cZ ad tx td dr (f_X0_give dy ((1 : Int64) <<< (sec.toInt64 &&& 63)) pe) lb ((f_X2_record dy pn ps).1) ((f_X2_record dy pn ps).2) ks si kb) := xW_D hD
          refine lv_iload_n hx hb dX7_sell_71 rfl (lv_at hl 0 rfl) ?_
          have hf : (f_X7_sell td dy pn ps sec pe) = ((f_X0_ownerOf dy sec), (f_X0_give dy ((1 : Int64) <<< (sec.toInt64 &&& 63)) pe), ((f_X2_record dy pn ps).1), ((f_X2_record dy pn ps).2)) := by rw [f_X7_sell, if_neg c_1, if_neg c_4, if_neg c_5, if_neg c_6]
          have hf1 : (f_X0_ownerOf dy sec) = (f_X7_sell td dy pn ps sec pe).1 := by rw [hf]
          have hf2 : ((f_X0_give dy ((1 : Int64) <<< (sec.toInt64 &&& 63)) pe), ((f_X2_record dy pn ps).1), ((f_X2_record dy pn ps).2)) = (f_X7_sell td dy pn ps sec pe).2 := by rw [hf]
          exact W.iret (v := (f_X0_ownerOf dy sec)) hx hb hr (fun t ht hW => ⟨⟨(f_X0_ownerOf dy sec), ((f_X0_give dy ((1 : Int64) <<< (sec.toInt64 &&& 63)) pe), ((f_X2_record dy pn ps).1), ((f_X2_record dy pn ps).2)), rfl, ⟨hf1, hf2⟩, va_Pt ht hP⟩, hS.F ht⟩) hS.2.2 dX7_sell_72
        · refine lv_bipush (v := (-4)) hx hb dX7_sell_46 rfl ?_
          have hf : (f_X7_sell td dy pn ps sec pe) = ((-4 : Int32), dy, pn, ps) := by rw [f_X7_sell, if_neg c_1, if_neg c_4, if_neg c_5, if_pos c_6]
          have hf1 : (-4 : Int32) = (f_X7_sell td dy pn ps sec pe).1 := by rw [hf]
          have hf2 : (dy, pn, ps) = (f_X7_sell td dy pn ps sec pe).2 := by rw [hf]
          exact W.iret (v := (-4 : Int32)) hx hb hr (fun t ht hW => ⟨⟨(-4 : Int32), (dy, pn, ps), rfl, ⟨hf1, hf2⟩, va_Pt ht hP⟩, hS.F ht⟩) hS.2.2 dX7_sell_48
      · refine lv_bipush (v := (-3)) hx hb dX7_sell_29 rfl ?_
        have hf : (f_X7_sell td dy pn ps sec pe) = ((-3 : Int32), dy, pn, ps) := by rw [f_X7_sell, if_neg c_1, if_neg c_4, if_pos c_5]
        have hf1 : (-3 : Int32) = (f_X7_sell td dy pn ps sec pe).1 := by rw [hf]
        have hf2 : (dy, pn, ps) = (f_X7_sell td dy pn ps sec pe).2 := by rw [hf]
        exact W.iret (v := (-3 : Int32)) hx hb hr (fun t ht hW => ⟨⟨(-3 : Int32), (dy, pn, ps), rfl, ⟨hf1, hf2⟩, va_Pt ht hP⟩, hS.F ht⟩) hS.2.2 dX7_sell_31
    · refine lv_bipush (v := (-2)) hx hb dX7_sell_16 rfl ?_
      have hf : (f_X7_sell td dy pn ps sec pe) = ((-2 : Int32), dy, pn, ps) := by rw [f_X7_sell, if_neg c_1, if_pos c_4]
      have hf1 : (-2 : Int32) = (f_X7_sell td dy pn ps sec pe).1 := by rw [hf]
      have hf2 : (dy, pn, ps) = (f_X7_sell td dy pn ps sec pe).2 := by rw [hf]
      exact W.iret (v := (-2 : Int32)) hx hb hr (fun t ht hW => ⟨⟨(-2 : Int32), (dy, pn, ps), rfl, ⟨hf1, hf2⟩, va_Pt ht hP⟩, hS.F ht⟩) hS.2.2 dX7_sell_18
def f_X7_undo (dy : XDy) (pn : (Nat × Nat)) (ps : XSh) : Int32 × XDy × (Nat × Nat) := ((if (f_X2_takeBack dy pn ps).1 = 0 then (-4 : Int32) else (f_X2_size ((f_X2_takeBack dy pn ps).2.2))), ((f_X2_takeBack dy pn ps).2.1), ((f_X2_takeBack dy pn ps).2.2))
abbrev rm_X7_undo : Room := { frames := 2, cells := 0, slots := 0, locals := 45 }
set_option maxHeartbeats 4000000 in
set_option maxRecDepth 100000 in
theorem c_X7_undo (l : Launch) (D : va_G) (cI cL cZ : ClassId) (ad : Nat → Nat) (A : Nat → Prop) (tx : XTx) (td : XTd) (dr : XTd) (dy : XDy) (lb : (Nat → Int32)) (pn : (Nat × Nat)) (ps : XSh) (ks : XSh) (si : XSi) (kb : Int32)  (hn : pn.1 < 8) (hh : pn.2 ≤ 8) : Met l yX7_undo wsX7_undo rm_X7_undo (va_Pc [.ref (ad 0)] (sR D cI cL cZ A (xW cI cL cZ ad tx td dr dy lb pn ps ks si kb))) (va_Qi (fun (r : Int32) (u : XDy × (Nat × Nat)) => r = (f_X7_undo dy pn ps).1 ∧ u = (f_X7_undo dy pn ps).2) (fun (u : XDy × (Nat × Nat)) t => va_P D vwCl (xW cI cL cZ ad tx td dr u.1 lb u.2 ps ks si kb) t.heap) A) 0 0 A := by
  refine Met.ofW (cc := cX7_undo) (maxL := 1) (ret := (some .int)) (by decide) rfl ?_
  intro p e s m args below meth c s₁ B hml hv
  obtain ⟨rfl, hP, hK, hD, hE⟩ := hv
  have hx := B.exec
  have hb := B.bytes
  have hr := B.returns
  have hts := atoms_spec (ws := wsX7_undo) B.pre
  have hown : s.vm.findClass RX7 = some m.cls := findClass_of_methodNamed B.named
  have hlocks := B.notSynchronized
  have hS : va_S A s.heap s.heap [] := va_S.rf
  have hl := lv_entry ([.ref (ad 0)]) (n := 1) (Nat.le_of_ble_eq_true rfl)
  rw [lg_entry_eq]
  generalize (lg_sl ([.ref (ad 0)]) ++ List.replicate (1 - (lg_sl ([.ref (ad 0)])).length) Slot.unset).toArray = ls at hl ⊢
  have hl : lv_has ls 1 [(0, .ref (ad 0))] := hl
  refine lv_aload_n hx hb dX7_undo_0 rfl (lv_at hl 0 rfl) ?_
  refine va_get (D := D) (ci := 7) (v := .ref (ad 20)) (C := RX7) (T := TX7) (N := 9) hx hb hts (by decide +kernel) hown hK hP 0 rfl rfl 5 (by decide) (hts (.fieldLink RX7 45 "SummitTime" "past" "LSummitTime$Past;") (by decide +kernel)) (fun _ h9 => h9) rfl dX7_undo_1 ?_
  refine lv_aload_n hx hb dX7_undo_4 rfl (lv_at hl 0 rfl) ?_
  refine va_get (D := D) (ci := 7) (v := .ref (ad 15)) (C := RX7) (T := TX7) (N := 9) hx hb hts (by decide +kernel) hown hK hP 0 rfl rfl 3 (by decide) (hts (.fieldLink RX7 29 "SummitTime" "day" "LSummitTime$Day;") (by decide +kernel)) (fun _ h9 => h9) rfl dX7_undo_5 ?_
  refine va_calli (va_runV (As := [.ref (ad 15)]) (rest := []) ⟨hx, hb, hml, hown, hts⟩ (c_X2_takeBack l D cI cL cZ ad A tx td dr dy lb pn ps ks si kb  (by first | assumption | omega) (by first | assumption | omega)) (cwV 1 hts gX7_undo_X2_takeBack rfl rfl rfl (by decide +kernel) ⟨Nat.le_of_ble_eq_true rfl, Nat.le_of_ble_eq_true rfl⟩) ⟨sR_fb, va_recv hK hP (ci := 2) (q0 := 20) rfl rfl, sR_at hP hK hD hE⟩ rfl rfl hl.1 rfl (lv_room (Nat.le_of_ble_eq_true rfl)) dX7_undo_8 ⟨Nat.zero_le _, Nat.zero_le _⟩) hS (fun q _ h => h) (fun q h => h) (fun r u t H locs ht hvm hw hB hz1 hk1 hS => ?_)
  obtain ⟨rfl, rfl⟩ := hw
  rw [ht] at hB
  have hP : va_P D vwCl (xW cI cL cZ ad tx td dr ((f_X2_takeBack dy pn ps).2.1) lb ((f_X2_takeBack dy pn ps).2.2) ps ks si kb) H := hB
  have hD : va_D A (xW cI cL cZ ad tx td dr ((f_X2_takeBack dy pn ps).2.1) lb ((f_X2_takeBack dy pn ps).2.2) ps ks si kb) := xW_D hD
  refine mv_phi (v := (if (f_X2_takeBack dy pn ps).1 = 0 then (-4 : Int32) else (f_X2_size ((f_X2_takeBack dy pn ps).2.2)))) (pcj := 26) (ls := ls) (rest' := []) ?_ (fun J_1 => ?_)
  · have hf : (f_X7_undo dy pn ps) = ((if (f_X2_takeBack dy pn ps).1 = 0 then (-4 : Int32) else (f_X2_size ((f_X2_takeBack dy pn ps).2.2))), ((f_X2_takeBack dy pn ps).2.1), ((f_X2_takeBack dy pn ps).2.2)) := by rw [f_X7_undo]
    have hf1 : (if (f_X2_takeBack dy pn ps).1 = 0 then (-4 : Int32) else (f_X2_size ((f_X2_takeBack dy pn ps).2.2))) = (f_X7_undo dy pn ps).1 := by rw [hf]
    have hf2 : (((f_X2_takeBack dy pn ps).2.1), ((f_X2_takeBack dy pn ps).2.2)) = (f_X7_undo dy pn ps).2 := by rw [hf]
    exact W.iret (v := (if (f_X2_takeBack dy pn ps).1 = 0 then (-4 : Int32) else (f_X2_size ((f_X2_takeBack dy pn ps).2.2)))) hx hb hr (fun t ht hW => ⟨⟨(if (f_X2_takeBack dy pn ps).1 = 0 then (-4 : Int32) else (f_X2_size ((f_X2_takeBack dy pn ps).2.2))), (((f_X2_takeBack dy pn ps).2.1), ((f_X2_takeBack dy pn ps).2.2)), rfl, ⟨hf1, hf2⟩, va_Pt ht hP⟩, hS.F ht⟩) hS.2.2 dX7_undo_26
  · refine lv_if_eq (tgt := 24) hx hb dX7_undo_11 (by decide) (fun c_2 => ?_) (fun c_2 => ?_)
    · refine lv_bipush (v := (-4)) hx hb dX7_undo_24 rfl ?_
      exact J_1 _ (by rw [if_pos c_2])
    · refine lv_aload_n hx hb dX7_undo_14 rfl (lv_at hl 0 rfl) ?_
      refine va_get (D := D) (ci := 7) (v := .ref (ad 20)) (C := RX7) (T := TX7) (N := 9) hx hb hts (by decide +kernel) hown hK hP 0 rfl rfl 5 (by decide) (hts (.fieldLink RX7 45 "SummitTime" "past" "LSummitTime$Past;") (by decide +kernel)) (fun _ h9 => h9) rfl dX7_undo_15 ?_
      refine vp_callSi (va_Run.run (va_runV (As := []) (rest := []) ⟨hx, hb, hml, hown, hts⟩ (c_X2_size l D cI cL cZ ad A tx td dr ((f_X2_takeBack dy pn ps).2.1) lb ((f_X2_takeBack dy pn ps).2.2) ps ks si kb  ) (cwV 0 hts gX7_undo_X2_size rfl rfl rfl (by decide +kernel) ⟨Nat.le_of_ble_eq_true rfl, Nat.le_of_ble_eq_true rfl⟩) ⟨sR_fb, va_recv hK hP (ci := 2) (q0 := 20) rfl rfl, sR_at hP hK hD hE⟩ rfl rfl hl.1 rfl (lv_room (Nat.le_of_ble_eq_true rfl)) dX7_undo_18 ⟨Nat.zero_le _, Nat.zero_le _⟩)) (fun r hr => ?_)
      subst hr
      refine lv_goto (tgt := 26) hx hb dX7_undo_21 (by decide) ?_
      exact J_1 _ (by rw [if_neg c_2])
def f_X7_keep (dy : XDy) (ks : XSh) (kb : Int32) (kk : Int32) : Int32 × XSh × Int32 := (if (f_X7_isWithin kk (nI 0) (nI 1)) = 0 then ((-2 : Int32), ks, kb) else (dy.2.2.2, (f_X3_put_k dy ks kk.toNatClampNeg), (kb ||| ((nI 1) <<< ((nI kk.toNatClampNeg) &&& 31)))))
abbrev rm_X7_keep : Room := { frames := 1, cells := 0, slots := 0, locals := 24 }
set_option maxHeartbeats 4000000 in
set_option maxRecDepth 100000 in
theorem c_X7_keep (l : Launch) (D : va_G) (cI cL cZ : ClassId) (ad : Nat → Nat) (A : Nat → Prop) (tx : XTx) (td : XTd) (dr : XTd) (dy : XDy) (lb : (Nat → Int32)) (pn : (Nat × Nat)) (ps : XSh) (ks : XSh) (si : XSi) (kb : Int32) (kk : Int32)  : Met l yX7_keep wsX7_keep rm_X7_keep (va_Pc [.ref (ad 0), .int kk] (sR D cI cL cZ A (xW cI cL cZ ad tx td dr dy lb pn ps ks si kb))) (va_Qi (fun (r : Int32) (u : XSh × Int32) => r = (f_X7_keep dy ks kb kk).1 ∧ u = (f_X7_keep dy ks kb kk).2) (fun (u : XSh × Int32) t => va_P D vwCl (xW cI cL cZ ad tx td dr dy lb pn ps u.1 si u.2) t.heap) A) 0 0 A := by
  refine Met.ofW (cc := cX7_keep) (maxL := 2) (ret := (some .int)) (by decide) rfl ?_
  intro p e s m args below meth c s₁ B hml hv
  obtain ⟨rfl, hP, hK, hD, hE⟩ := hv
  have hx := B.exec
  have hb := B.bytes
  have hr := B.returns
  have hts := atoms_spec (ws := wsX7_keep) B.pre
  have hown : s.vm.findClass RX7 = some m.cls := findClass_of_methodNamed B.named
  have hlocks := B.notSynchronized
  have hS : va_S A s.heap s.heap [] := va_S.rf
  have hl := lv_entry ([.ref (ad 0), .int kk]) (n := 2) (Nat.le_of_ble_eq_true rfl)
  rw [lg_entry_eq]
  generalize (lg_sl ([.ref (ad 0), .int kk]) ++ List.replicate (2 - (lg_sl ([.ref (ad 0), .int kk])).length) Slot.unset).toArray = ls at hl ⊢
  have hl : lv_has ls 2 [(0, .ref (ad 0)), (1, .int kk)] := hl
  refine lv_iload_n hx hb dX7_keep_0 rfl (lv_at hl 1 rfl) ?_
  refine lv_iconst (v := nI 0) hx hb dX7_keep_1 rfl ?_
  refine lv_iconst (v := nI 1) hx hb dX7_keep_2 rfl ?_
  refine vp_callSi (va_Run.run (va_runS (As := [.int kk, .int (nI 0), .int (nI 1)]) (rest := []) ⟨hx, hb, hml, hown, hts⟩ (c_X7_isWithin l kk (nI 0) (nI 1) ) (va_cwS 3 hts gX7_keep_X7_isWithin rfl rfl rfl (by decide +kernel) ⟨Nat.le_of_ble_eq_true rfl, Nat.le_of_ble_eq_true rfl⟩) ⟨pR_fb, pR_at⟩ rfl rfl hl.1 rfl (lv_room (Nat.le_of_ble_eq_true rfl)) dX7_keep_3 ⟨Nat.zero_le _, Nat.zero_le _⟩)) (fun r hr => ?_)
  subst hr
  refine lv_if_ne (tgt := 12) hx hb dX7_keep_6 (by decide) (fun c_1 => ?_) (fun c_1 => ?_)
  · have hkl := (isw_and (by decide) c_1).2
    have hl : lv_has ls 2 [(0, .ref (ad 0)), (1, .int (nI kk.toNatClampNeg))] := by have h9 := hl; rw [(isw_and (by decide) c_1).1] at h9; exact h9
    refine lv_aload_n hx hb dX7_keep_12 rfl (lv_at hl 0 rfl) ?_
    refine va_get (D := D) (ci := 7) (v := .ref (ad 26)) (C := RX7) (T := TX7) (N := 9) hx hb hts (by decide +kernel) hown hK hP 0 rfl rfl 6 (by decide) (hts (.fieldLink RX7 54 "SummitTime" "kept" "LSummitTime$Shelf;") (by decide +kernel)) (fun _ h9 => h9) rfl dX7_keep_13 ?_
    refine lv_iload_n hx hb dX7_keep_16 rfl (lv_at hl 1 rfl) ?_
    refine lv_aload_n hx hb dX7_keep_17 rfl (lv_at hl 0 rfl) ?_
    refine va_get (D := D) (ci := 7) (v := .ref (ad 15)) (C := RX7) (T := TX7) (N := 9) hx hb hts (by decide +kernel) hown hK hP 0 rfl rfl 3 (by decide) (hts (.fieldLink RX7 29 "SummitTime" "day" "LSummitTime$Day;") (by decide +kernel)) (fun _ h9 => h9) rfl dX7_keep_18 ?_
    refine va_callv (va_runV (As := [.int (nI kk.toNatClampNeg), .ref (ad 15)]) (rest := []) ⟨hx, hb, hml, hown, hts⟩ (c_X3_put_k l D cI cL cZ ad A tx td dr dy lb pn ps ks si kb kk.toNatClampNeg (by first | assumption | omega)) (cwV 2 hts gX7_keep_X3_put rfl rfl rfl (by decide +kernel) ⟨Nat.le_of_ble_eq_true rfl, Nat.le_of_ble_eq_true rfl⟩) ⟨sR_fb, va_recv hK hP (ci := 3) (q0 := 26) rfl rfl, sR_at hP hK hD hE⟩ rfl rfl hl.1 rfl (lv_room (Nat.le_of_ble_eq_true rfl)) dX7_keep_21 ⟨Nat.zero_le _, Nat.zero_le _⟩) hS (fun q _ h => h) (fun q h => h) (fun u t H locs ht hvm hw hB hz1 hk1 hS => ?_)
    subst hw
    rw [ht] at hB
    have hP : va_P D vwCl (xW cI cL cZ ad tx td dr dy lb pn ps (f_X3_put_k dy ks kk.toNatClampNeg) si kb) H := hB
    have hD : va_D A (xW cI cL cZ ad tx td dr dy lb pn ps (f_X3_put_k dy ks kk.toNatClampNeg) si kb) := xW_D hD
    refine lv_aload_n hx hb dX7_keep_24 rfl (lv_at hl 0 rfl) ?_
    refine lv_dup hx hb dX7_keep_25 rfl ?_
    refine va_get (D := D) (ci := 7) (v := .int kb) (C := RX7) (T := TX7) (N := 9) hx hb hts (by decide +kernel) hown hK hP 0 rfl rfl 8 (by decide) (hts (.fieldLink RX7 65 "SummitTime" "keptBits" "I") (by decide +kernel)) (fun _ h9 => h9) rfl dX7_keep_26 ?_
    refine lv_iconst (v := nI 1) hx hb dX7_keep_29 rfl ?_
    refine lv_iload_n hx hb dX7_keep_30 rfl (lv_at hl 1 rfl) ?_
    refine lv_ishl hx hb dX7_keep_31 ?_
    refine lv_ior hx hb dX7_keep_32 ?_
    refine va_put (D := D) (ci := 7) (v := .int (kb ||| ((nI 1) <<< ((nI kk.toNatClampNeg) &&& 31)))) (ty := .int) (C := RX7) (T := TX7) (N := 9) hx hb hts (by decide +kernel) tyX7 tyX7_ok nmX7 hown hK hP hD hS 0 rfl rfl 8 (by decide) (hts (.fieldLink RX7 65 "SummitTime" "keptBits" "I") (by decide +kernel)) (fun _ h9 => h9) rfl (by decide +kernel) rfl rfl (Nat.le_of_ble_eq_true rfl) dX7_keep_33 (fun H locs hP hD hS => ?_)
    have hP : va_P D vwCl (xW cI cL cZ ad tx td dr dy lb pn ps (f_X3_put_k dy ks kk.toNatClampNeg) si (kb ||| ((nI 1) <<< ((nI kk.toNatClampNeg) &&& 31)))) H := hP
    have hD : va_D A (xW cI cL cZ ad tx td dr dy lb pn ps (f_X3_put_k dy ks kk.toNatClampNeg) si (kb ||| ((nI 1) <<< ((nI kk.toNatClampNeg) &&& 31)))) := hD
    refine lv_aload_n hx hb dX7_keep_36 rfl (lv_at hl 0 rfl) ?_
    refine va_get (D := D) (ci := 7) (v := .ref (ad 15)) (C := RX7) (T := TX7) (N := 9) hx hb hts (by decide +kernel) hown hK hP 0 rfl rfl 3 (by decide) (hts (.fieldLink RX7 29 "SummitTime" "day" "LSummitTime$Day;") (by decide +kernel)) (fun _ h9 => h9) rfl dX7_keep_37 ?_
    refine va_getN (D := D) (ci := 0) (v := .int dy.2.2.2) (C := RX0) (T := TX0) (N := 4) hx hb hts (by decide +kernel) hown hK hP 15 rfl rfl 3 (by decide) (va_Nw.use rfl hE.2.2.2.2.2.2.2.2.2.2.2.2.1) (fun _ h9 => h9) rfl dX7_keep_40 ?_
    have hf : (f_X7_keep dy ks kb kk) = (dy.2.2.2, (f_X3_put_k dy ks kk.toNatClampNeg), (kb ||| ((nI 1) <<< ((nI kk.toNatClampNeg) &&& 31)))) := by rw [f_X7_keep, if_neg c_1]
    have hf1 : dy.2.2.2 = (f_X7_keep dy ks kb kk).1 := by rw [hf]
    have hf2 : ((f_X3_put_k dy ks kk.toNatClampNeg), (kb ||| ((nI 1) <<< ((nI kk.toNatClampNeg) &&& 31)))) = (f_X7_keep dy ks kb kk).2 := by rw [hf]
    exact W.iret (v := dy.2.2.2) hx hb hr (fun t ht hW => ⟨⟨dy.2.2.2, ((f_X3_put_k dy ks kk.toNatClampNeg), (kb ||| ((nI 1) <<< ((nI kk.toNatClampNeg) &&& 31)))), rfl, ⟨hf1, hf2⟩, va_Pt ht hP⟩, hS.F ht⟩) hS.2.2 dX7_keep_43
  · refine lv_bipush (v := (-2)) hx hb dX7_keep_9 rfl ?_
    have hf : (f_X7_keep dy ks kb kk) = ((-2 : Int32), ks, kb) := by rw [f_X7_keep, if_pos c_1]
    have hf1 : (-2 : Int32) = (f_X7_keep dy ks kb kk).1 := by rw [hf]
    have hf2 : (ks, kb) = (f_X7_keep dy ks kb kk).2 := by rw [hf]
    exact W.iret (v := (-2 : Int32)) hx hb hr (fun t ht hW => ⟨⟨(-2 : Int32), (ks, kb), rfl, ⟨hf1, hf2⟩, va_Pt ht hP⟩, hS.F ht⟩) hS.2.2 dX7_keep_11
def f_X7_back (dy : XDy) (pn : (Nat × Nat)) (ks : XSh) (kb : Int32) (kk : Int32) : Int32 × XDy × (Nat × Nat) := (if (f_X7_isWithin kk (nI 0) (nI 1)) = 0 then ((-2 : Int32), dy, pn) else (if (kb &&& ((nI 1) <<< ((nI kk.toNatClampNeg) &&& 31))) = 0 then ((-4 : Int32), dy, pn) else ((f_X3_fetch_k dy ks kk.toNatClampNeg).2.2.2, (f_X3_fetch_k dy ks kk.toNatClampNeg), (f_X2_empty pn))))
abbrev rm_X7_back : Room := { frames := 1, cells := 0, slots := 0, locals := 24 }
set_option maxHeartbeats 4000000 in
set_option maxRecDepth 100000 in
theorem c_X7_back (l : Launch) (D : va_G) (cI cL cZ : ClassId) (ad : Nat → Nat) (A : Nat → Prop) (tx : XTx) (td : XTd) (dr : XTd) (dy : XDy) (lb : (Nat → Int32)) (pn : (Nat × Nat)) (ps : XSh) (ks : XSh) (si : XSi) (kb : Int32) (kk : Int32)  : Met l yX7_back wsX7_back rm_X7_back (va_Pc [.ref (ad 0), .int kk] (sR D cI cL cZ A (xW cI cL cZ ad tx td dr dy lb pn ps ks si kb))) (va_Qi (fun (r : Int32) (u : XDy × (Nat × Nat)) => r = (f_X7_back dy pn ks kb kk).1 ∧ u = (f_X7_back dy pn ks kb kk).2) (fun (u : XDy × (Nat × Nat)) t => va_P D vwCl (xW cI cL cZ ad tx td dr u.1 lb u.2 ps ks si kb) t.heap) A) 0 0 A := by
  refine Met.ofW (cc := cX7_back) (maxL := 2) (ret := (some .int)) (by decide) rfl ?_
  intro p e s m args below meth c s₁ B hml hv
  obtain ⟨rfl, hP, hK, hD, hE⟩ := hv
  have hx := B.exec
  have hb := B.bytes
  have hr := B.returns
  have hts := atoms_spec (ws := wsX7_back) B.pre
  have hown : s.vm.findClass RX7 = some m.cls := findClass_of_methodNamed B.named
  have hlocks := B.notSynchronized
  have hS : va_S A s.heap s.heap [] := va_S.rf
  have hl := lv_entry ([.ref (ad 0), .int kk]) (n := 2) (Nat.le_of_ble_eq_true rfl)
  rw [lg_entry_eq]
  generalize (lg_sl ([.ref (ad 0), .int kk]) ++ List.replicate (2 - (lg_sl ([.ref (ad 0), .int kk])).length) Slot.unset).toArray = ls at hl ⊢
  have hl : lv_has ls 2 [(0, .ref (ad 0)), (1, .int kk)] := hl
  refine lv_iload_n hx hb dX7_back_0 rfl (lv_at hl 1 rfl) ?_
  refine lv_iconst (v := nI 0) hx hb dX7_back_1 rfl ?_
  refine lv_iconst (v := nI 1) hx hb dX7_back_2 rfl ?_
  refine vp_callSi (va_Run.run (va_runS (As := [.int kk, .int (nI 0), .int (nI 1)]) (rest := []) ⟨hx, hb, hml, hown, hts⟩ (c_X7_isWithin l kk (nI 0) (nI 1) ) (va_cwS 3 hts gX7_back_X7_isWithin rfl rfl rfl (by decide +kernel) ⟨Nat.le_of_ble_eq_true rfl, Nat.le_of_ble_eq_true rfl⟩) ⟨pR_fb, pR_at⟩ rfl rfl hl.1 rfl (lv_room (Nat.le_of_ble_eq_true rfl)) dX7_back_3 ⟨Nat.zero_le _, Nat.zero_le _⟩)) (fun r hr => ?_)
  subst hr
  refine lv_if_ne (tgt := 12) hx hb dX7_back_6 (by decide) (fun c_1 => ?_) (fun c_1 => ?_)
  · have hkl := (isw_and (by decide) c_1).2
    have hl : lv_has ls 2 [(0, .ref (ad 0)), (1, .int (nI kk.toNatClampNeg))] := by have h9 := hl; rw [(isw_and (by decide) c_1).1] at h9; exact h9
    refine lv_aload_n hx hb dX7_back_12 rfl (lv_at hl 0 rfl) ?_
    refine va_get (D := D) (ci := 7) (v := .int kb) (C := RX7) (T := TX7) (N := 9) hx hb hts (by decide +kernel) hown hK hP 0 rfl rfl 8 (by decide) (hts (.fieldLink RX7 65 "SummitTime" "keptBits" "I") (by decide +kernel)) (fun _ h9 => h9) rfl dX7_back_13 ?_
    refine lv_iconst (v := nI 1) hx hb dX7_back_16 rfl ?_
    refine lv_iload_n hx hb dX7_back_17 rfl (lv_at hl 1 rfl) ?_
    refine lv_ishl hx hb dX7_back_18 ?_
    refine lv_iand hx hb dX7_back_19 ?_
    refine lv_if_ne (tgt := 26) hx hb dX7_back_20 (by decide) (fun c_2 => ?_) (fun c_2 => ?_)
    · refine lv_aload_n hx hb dX7_back_26 rfl (lv_at hl 0 rfl) ?_
      refine va_get (D := D) (ci := 7) (v := .ref (ad 26)) (C := RX7) (T := TX7) (N := 9) hx hb hts (by decide +kernel) hown hK hP 0 rfl rfl 6 (by decide) (hts (.fieldLink RX7 54 "SummitTime" "kept" "LSummitTime$Shelf;") (by decide +kernel)) (fun _ h9 => h9) rfl dX7_back_27 ?_
      refine lv_iload_n hx hb dX7_back_30 rfl (lv_at hl 1 rfl) ?_
      refine lv_aload_n hx hb dX7_back_31 rfl (lv_at hl 0 rfl) ?_
      refine va_get (D := D) (ci := 7) (v := .ref (ad 15)) (C := RX7) (T := TX7) (N := 9) hx hb hts (by decide +kernel) hown hK hP 0 rfl rfl 3 (by decide) (hts (.fieldLink RX7 29 "SummitTime" "day" "LSummitTime$Day;") (by decide +kernel)) (fun _ h9 => h9) rfl dX7_back_32 ?_
      refine va_callv (va_runV (As := [.int (nI kk.toNatClampNeg), .ref (ad 15)]) (rest := []) ⟨hx, hb, hml, hown, hts⟩ (c_X3_fetch_k l D cI cL cZ ad A tx td dr dy lb pn ps ks si kb kk.toNatClampNeg (by first | assumption | omega)) (cwV 2 hts gX7_back_X3_fetch rfl rfl rfl (by decide +kernel) ⟨Nat.le_of_ble_eq_true rfl, Nat.le_of_ble_eq_true rfl⟩) ⟨sR_fb, va_recv hK hP (ci := 3) (q0 := 26) rfl rfl, sR_at hP hK hD hE⟩ rfl rfl hl.1 rfl (lv_room (Nat.le_of_ble_eq_true rfl)) dX7_back_35 ⟨Nat.zero_le _, Nat.zero_le _⟩) hS (fun q _ h => h) (fun q h => h) (fun u t H locs ht hvm hw hB hz1 hk1 hS => ?_)
      subst hw
      rw [ht] at hB
      have hP : va_P D vwCl (xW cI cL cZ ad tx td dr (f_X3_fetch_k dy ks kk.toNatClampNeg) lb pn ps ks si kb) H := hB
      have hD : va_D A (xW cI cL cZ ad tx td dr (f_X3_fetch_k dy ks kk.toNatClampNeg) lb pn ps ks si kb) := xW_D hD
      refine lv_aload_n hx hb dX7_back_38 rfl (lv_at hl 0 rfl) ?_
      refine va_get (D := D) (ci := 7) (v := .ref (ad 20)) (C := RX7) (T := TX7) (N := 9) hx hb hts (by decide +kernel) hown hK hP 0 rfl rfl 5 (by decide) (hts (.fieldLink RX7 45 "SummitTime" "past" "LSummitTime$Past;") (by decide +kernel)) (fun _ h9 => h9) rfl dX7_back_39 ?_
      refine va_callv (va_runV (As := []) (rest := []) ⟨hx, hb, hml, hown, hts⟩ (c_X2_empty l D cI cL cZ ad A tx td dr (f_X3_fetch_k dy ks kk.toNatClampNeg) lb pn ps ks si kb  ) (cwV 0 hts gX7_back_X2_empty rfl rfl rfl (by decide +kernel) ⟨Nat.le_of_ble_eq_true rfl, Nat.le_of_ble_eq_true rfl⟩) ⟨sR_fb, va_recv hK hP (ci := 2) (q0 := 20) rfl rfl, sR_at hP hK hD hE⟩ rfl rfl hl.1 rfl (lv_room (Nat.le_of_ble_eq_true rfl)) dX7_back_42 ⟨Nat.zero_le _, Nat.zero_le _⟩) hS (fun q _ h => h) (fun q h => h) (fun u t H locs ht hvm hw hB hz1 hk1 hS => ?_)
      subst hw
      rw [ht] at hB
      have hP : va_P D vwCl (xW cI cL cZ ad tx td dr (f_X3_fetch_k dy ks kk.toNatClampNeg) lb (f_X2_empty pn) ps ks si kb) H := hB
      have hD : va_D A (xW cI cL cZ ad tx td dr (f_X3_fetch_k dy ks kk.toNatClampNeg) lb (f_X2_empty pn) ps ks si kb) := xW_D hD
      refine lv_aload_n hx hb dX7_back_45 rfl (lv_at hl 0 rfl) ?_
      refine va_get (D := D) (ci := 7) (v := .ref (ad 15)) (C := RX7) (T := TX7) (N := 9) hx hb hts (by decide +kernel) hown hK hP 0 rfl rfl 3 (by decide) (hts (.fieldLink RX7 29 "SummitTime" "day" "LSummitTime$Day;") (by decide +kernel)) (fun _ h9 => h9) rfl dX7_back_46 ?_
      refine va_getN (D := D) (ci := 0) (v := .int ((f_X3_fetch_k dy ks kk.toNatClampNeg).2.2.2)) (C := RX0) (T := TX0) (N := 4) hx hb hts (by decide +kernel) hown hK hP 15 rfl rfl 3 (by decide) (va_Nw.use rfl hE.2.2.2.2.2.2.2.2.2.2.2.2.1) (fun _ h9 => h9) rfl dX7_back_49 ?_
      have hf : (f_X7_back dy pn ks kb kk) = ((f_X3_fetch_k dy ks kk.toNatClampNeg).2.2.2, (f_X3_fetch_k dy ks kk.toNatClampNeg), (f_X2_empty pn)) := by rw [f_X7_back, if_neg c_1, if_neg c_2]
      have hf1 : (f_X3_fetch_k dy ks kk.toNatClampNeg).2.2.2 = (f_X7_back dy pn ks kb kk).1 := by rw [hf]
      have hf2 : ((f_X3_fetch_k dy ks kk.toNatClampNeg), (f_X2_empty pn)) = (f_X7_back dy pn ks kb kk).2 := by rw [hf]
      exact W.iret (v := (f_X3_fetch_k dy ks kk.toNatClampNeg).2.2.2) hx hb hr (fun t ht hW => ⟨⟨(f_X3_fetch_k dy ks kk.toNatClampNeg).2.2.2, ((f_X3_fetch_k dy ks kk.toNatClampNeg), (f_X2_empty pn)), rfl, ⟨hf1, hf2⟩, va_Pt ht hP⟩, hS.F ht⟩) hS.2.2 dX7_back_52
    · refine lv_bipush (v := (-4)) hx hb dX7_back_23 rfl ?_
      have hf : (f_X7_back dy pn ks kb kk) = ((-4 : Int32), dy, pn) := by rw [f_X7_back, if_neg c_1, if_pos c_2]
      have hf1 : (-4 : Int32) = (f_X7_back dy pn ks kb kk).1 := by rw [hf]
      have hf2 : (dy, pn) = (f_X7_back dy pn ks kb kk).2 := by rw [hf]
      exact W.iret (v := (-4 : Int32)) hx hb hr (fun t ht hW => ⟨⟨(-4 : Int32), (dy, pn), rfl, ⟨hf1, hf2⟩, va_Pt ht hP⟩, hS.F ht⟩) hS.2.2 dX7_back_25
  · refine lv_bipush (v := (-2)) hx hb dX7_back_9 rfl ?_
    have hf : (f_X7_back dy pn ks kb kk) = ((-2 : Int32), dy, pn) := by rw [f_X7_back, if_pos c_1]
    have hf1 : (-2 : Int32) = (f_X7_back dy pn ks kb kk).1 := by rw [hf]
    have hf2 : (dy, pn) = (f_X7_back dy pn ks kb kk).2 := by rw [hf]
    exact W.iret (v := (-2 : Int32)) hx hb hr (fun t ht hW => ⟨⟨(-2 : Int32), (dy, pn), rfl, ⟨hf1, hf2⟩, va_Pt ht hP⟩, hS.F ht⟩) hS.2.2 dX7_back_11
