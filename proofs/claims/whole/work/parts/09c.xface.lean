def f_X7_best (td : XTd) (dy : XDy) (pe : Int32) (wh : Int32) : Int32 := (if (f_X6_knows td pe) = 0 then (-2 : Int32) else (if (f_X7_isWithin wh (nI 0) (nI 1)) = 0 then (-3 : Int32) else (if (f_X1_bestStart td dy pe) = (-1 : Int32) then (f_X1_bestStart td dy pe) else (if wh = 0 then (f_X1_bestStart td dy pe) else (f_X1_fineFrom td dy pe (f_X1_bestStart td dy pe))))))
abbrev rm_X7_best : Room := { frames := 5, cells := 0, slots := 0, locals := 127 }
set_option maxHeartbeats 4000000 in
set_option maxRecDepth 100000 in
theorem c_X7_best (l : Launch) (D : va_G) (cI cL cZ : ClassId) (ad : Nat → Nat) (A : Nat → Prop) (tx : XTx) (td : XTd) (dr : XTd) (dy : XDy) (lb : (Nat → Int32)) (pn : (Nat × Nat)) (ps : XSh) (ks : XSh) (si : XSi) (kb : Int32) (pe : Int32) (wh : Int32) (hpe : td.2.2.2.2.2.1 ≤ 6) : Met l yX7_best wsX7_best rm_X7_best (va_Pc [.ref (ad 0), .int pe, .int wh] (sR D cI cL cZ A (xW cI cL cZ ad tx td dr dy lb pn ps ks si kb))) (vp_Si (fun r => r = (f_X7_best td dy pe wh))) 0 0 (fun _ => False) := by
  refine Met.ofW (cc := cX7_best) (maxL := 4) (ret := (some .int)) (by decide) rfl ?_
  intro p e s m args below meth c s₁ B hml hv
  obtain ⟨rfl, hP, hK, hD, hE⟩ := hv
  have hx := B.exec
  have hb := B.bytes
  have hr := B.returns
  have hts := atoms_spec (ws := wsX7_best) B.pre
  have hown : s.vm.findClass RX7 = some m.cls := findClass_of_methodNamed B.named
  have hlocks := B.notSynchronized
  have hl := lv_entry ([.ref (ad 0), .int pe, .int wh]) (n := 4) (Nat.le_of_ble_eq_true rfl)
  rw [lg_entry_eq]
  generalize (lg_sl ([.ref (ad 0), .int pe, .int wh]) ++ List.replicate (4 - (lg_sl ([.ref (ad 0), .int pe, .int wh])).length) Slot.unset).toArray = ls at hl ⊢
  have hl : lv_has ls 4 [(0, .ref (ad 0)), (1, .int pe), (2, .int wh)] := hl
  refine lv_aload_n hx hb dX7_best_0 rfl (lv_at hl 0 rfl) ?_
  refine va_get (D := D) (ci := 7) (v := .ref (ad 3)) (C := RX7) (T := TX7) (N := 9) hx hb hts (by decide +kernel) hown hK hP 0 rfl rfl 1 (by decide) (hts (.fieldLink RX7 19 "SummitTime" "told" "LSummitTime$Told;") (by decide +kernel)) (fun _ h9 => h9) rfl dX7_best_1 ?_
  refine lv_iload_n hx hb dX7_best_4 rfl (lv_at hl 1 rfl) ?_
  refine vp_callSi (va_Run.run (va_runV (As := [.int pe]) (rest := []) ⟨hx, hb, hml, hown, hts⟩ (c_X6_knows l D cI cL cZ ad A tx td dr dy lb pn ps ks si kb pe ) (cwV 1 hts gX7_best_X6_knows rfl rfl rfl (by decide +kernel) ⟨Nat.le_of_ble_eq_true rfl, Nat.le_of_ble_eq_true rfl⟩) ⟨sR_fb, va_recv hK hP (ci := 6) (q0 := 3) rfl rfl, sR_at hP hK hD hE⟩ rfl rfl hl.1 rfl (lv_room (Nat.le_of_ble_eq_true rfl)) dX7_best_5 ⟨Nat.zero_le _, Nat.zero_le _⟩)) (fun r hr => ?_)
  subst hr
  refine lv_if_ne (tgt := 14) hx hb dX7_best_8 (by decide) (fun c_1 => ?_) (fun c_1 => ?_)
  · refine lv_iload_n hx hb dX7_best_14 rfl (lv_at hl 2 rfl) ?_
    refine lv_iconst (v := nI 0) hx hb dX7_best_15 rfl ?_
    refine lv_iconst (v := nI 1) hx hb dX7_best_16 rfl ?_
    refine vp_callSi (va_Run.run (va_runS (As := [.int wh, .int (nI 0), .int (nI 1)]) (rest := []) ⟨hx, hb, hml, hown, hts⟩ (c_X7_isWithin l wh (nI 0) (nI 1) ) (va_cwS 3 hts gX7_best_X7_isWithin rfl rfl rfl (by decide +kernel) ⟨Nat.le_of_ble_eq_true rfl, Nat.le_of_ble_eq_true rfl⟩) ⟨pR_fb, pR_at⟩ rfl rfl hl.1 rfl (lv_room (Nat.le_of_ble_eq_true rfl)) dX7_best_17 ⟨Nat.zero_le _, Nat.zero_le _⟩)) (fun r hr => ?_)
    subst hr
    refine lv_if_ne (tgt := 26) hx hb dX7_best_20 (by decide) (fun c_2 => ?_) (fun c_2 => ?_)
    · refine lv_aload_n hx hb dX7_best_26 rfl (lv_at hl 0 rfl) ?_
      refine va_get (D := D) (ci := 7) (v := .ref (ad 18)) (C := RX7) (T := TX7) (N := 9) hx hb hts (by decide +kernel) hown hK hP 0 rfl rfl 4 (by decide) (hts (.fieldLink RX7 38 "SummitTime" "ledger" "LSummitTime$Ledger;") (by decide +kernel)) (fun _ h9 => h9) rfl dX7_best_27 ?_
      refine lv_iload_n hx hb dX7_best_30 rfl (lv_at hl 1 rfl) ?_
      refine vp_callSi (va_Run.run (va_runV (As := [.int pe]) (rest := []) ⟨hx, hb, hml, hown, hts⟩ (c_X1_bestStart l D cI cL cZ ad A tx td dr dy lb pn ps ks si kb pe (by first | assumption | omega)) (cwV 1 hts gX7_best_X1_bestStart rfl rfl rfl (by decide +kernel) ⟨Nat.le_of_ble_eq_true rfl, Nat.le_of_ble_eq_true rfl⟩) ⟨sR_fb, va_recv hK hP (ci := 1) (q0 := 18) rfl rfl, sR_at hP hK hD hE⟩ rfl rfl hl.1 rfl (lv_room (Nat.le_of_ble_eq_true rfl)) dX7_best_31 ⟨Nat.zero_le _, Nat.zero_le _⟩)) (fun r hr => ?_)
      subst hr
      refine lv_istore_n (lv' := [(3, .int (f_X1_bestStart td dy pe)), (0, .ref (ad 0)), (1, .int pe), (2, .int wh)]) hx hb dX7_best_34 rfl hl (by decide) rfl (fun ls hl => ?_)
      refine lv_iload_n hx hb dX7_best_35 rfl (lv_at hl 0 rfl) ?_
      refine lv_iconst (v := (-1)) hx hb dX7_best_36 rfl ?_
      refine lv_icmp_eq (tgt := 44) hx hb dX7_best_37 (by decide) (fun c_3 => ?_) (fun c_3 => ?_)
      · refine lv_iload_n hx hb dX7_best_44 rfl (lv_at hl 0 rfl) ?_
        have hf : (f_X7_best td dy pe wh) = (f_X1_bestStart td dy pe) := by rw [f_X7_best, if_neg c_1, if_neg c_2, if_pos c_3]
        exact W.iret (v := (f_X1_bestStart td dy pe)) hx hb hr (fun t ht hW => ⟨(f_X1_bestStart td dy pe), rfl, hf.symm, ht⟩) (fun _ h => by cases h) dX7_best_45
      · refine lv_iload_n hx hb dX7_best_40 rfl (lv_at hl 3 rfl) ?_
        refine lv_if_ne (tgt := 46) hx hb dX7_best_41 (by decide) (fun c_4 => ?_) (fun c_4 => ?_)
        · refine lv_aload_n hx hb dX7_best_46 rfl (lv_at hl 1 rfl) ?_
          refine va_get (D := D) (ci := 7) (v := .ref (ad 18)) (C := RX7) (T := TX7) (N := 9) hx hb hts (by decide +kernel) hown hK hP 0 rfl rfl 4 (by decide) (hts (.fieldLink RX7 38 "SummitTime" "ledger" "LSummitTime$Ledger;") (by decide +kernel)) (fun _ h9 => h9) rfl dX7_best_47 ?_
          refine lv_iload_n hx hb dX7_best_50 rfl (lv_at hl 2 rfl) ?_
          refine lv_iload_n hx hb dX7_best_51 rfl (lv_at hl 0 rfl) ?_
          refine vp_callSi (va_Run.run (va_runV (As := [.int pe, .int (f_X1_bestStart td dy pe)]) (rest := []) ⟨hx, hb, hml, hown, hts⟩ (c_X1_fineFrom l D cI cL cZ ad A tx td dr dy lb pn ps ks si kb pe (f_X1_bestStart td dy pe) (by first | assumption | omega)) (cwV 2 hts gX7_best_X1_fineFrom rfl rfl rfl (by decide +kernel) ⟨Nat.le_of_ble_eq_true rfl, Nat.le_of_ble_eq_true rfl⟩) ⟨sR_fb, va_recv hK hP (ci := 1) (q0 := 18) rfl rfl, sR_at hP hK hD hE⟩ rfl rfl hl.1 rfl (lv_room (Nat.le_of_ble_eq_true rfl)) dX7_best_52 ⟨Nat.zero_le _, Nat.zero_le _⟩)) (fun r hr => ?_)
          subst hr
          have hf : (f_X7_best td dy pe wh) = (f_X1_fineFrom td dy pe (f_X1_bestStart td dy pe)) := by rw [f_X7_best, if_neg c_1, if_neg c_2, if_neg c_3, if_neg c_4]
          exact W.iret (v := (f_X1_fineFrom td dy pe (f_X1_bestStart td dy pe))) hx hb hr (fun t ht hW => ⟨(f_X1_fineFrom td dy pe (f_X1_bestStart td dy pe)), rfl, hf.symm, ht⟩) (fun _ h => by cases h) dX7_best_55
        · refine lv_iload_n hx hb dX7_best_44 rfl (lv_at hl 0 rfl) ?_
          have hf : (f_X7_best td dy pe wh) = (f_X1_bestStart td dy pe) := by rw [f_X7_best, if_neg c_1, if_neg c_2, if_neg c_3, if_pos c_4]
          exact W.iret (v := (f_X1_bestStart td dy pe)) hx hb hr (fun t ht hW => ⟨(f_X1_bestStart td dy pe), rfl, hf.symm, ht⟩) (fun _ h => by cases h) dX7_best_45
    · refine lv_bipush (v := (-3)) hx hb dX7_best_23 rfl ?_
      have hf : (f_X7_best td dy pe wh) = (-3 : Int32) := by rw [f_X7_best, if_neg c_1, if_pos c_2]
      exact W.iret (v := (-3 : Int32)) hx hb hr (fun t ht hW => ⟨(-3 : Int32), rfl, hf.symm, ht⟩) (fun _ h => by cases h) dX7_best_25
  · refine lv_bipush (v := (-2)) hx hb dX7_best_11 rfl ?_
    have hf : (f_X7_best td dy pe wh) = (-2 : Int32) := by rw [f_X7_best, if_pos c_1]
    exact W.iret (v := (-2 : Int32)) hx hb hr (fun t ht hW => ⟨(-2 : Int32), rfl, hf.symm, ht⟩) (fun _ h => by cases h) dX7_best_13
def f_X7_order (td : XTd) (dy : XDy) (lb : (Nat → Int32)) (set : Int32) (aa : Int32) (wh : Int32) : Int32 × (Nat → Int32) := (if (set &&& ((f_X6_everybody td) ^^^ (-1 : Int32))) = 0 then (if (f_X7_isWithin aa (nI 0) (nI 59)) = 0 then ((-3 : Int32), lb) else (if (f_X7_isWithin wh (nI 0) (nI 6)) = 0 then ((-3 : Int32), lb) else (if wh.toNatClampNeg = 0 then ((f_X1_leastInOrder td dy lb set aa).1, (f_X1_leastInOrder td dy lb set aa).2) else (if (f_X1_leastInOrder td dy lb set aa).1 = (-1 : Int32) then ((f_X1_leastInOrder td dy lb set aa).1, (f_X1_leastInOrder td dy lb set aa).2) else ((f_X1_placeInOrder td dy (f_X1_leastInOrder td dy lb set aa).2 set aa wh.toNatClampNeg), (f_X1_leastInOrder td dy lb set aa).2))))) else ((-2 : Int32), lb))
abbrev rm_X7_order : Room := { frames := 6, cells := 0, slots := 0, locals := 148 }
set_option maxHeartbeats 4000000 in
set_option maxRecDepth 100000 in
theorem c_X7_order (l : Launch) (D : va_G) (cI cL cZ : ClassId) (ad : Nat → Nat) (A : Nat → Prop) (tx : XTx) (td : XTd) (dr : XTd) (dy : XDy) (lb : (Nat → Int32)) (pn : (Nat × Nat)) (ps : XSh) (ks : XSh) (si : XSi) (kb : Int32) (set : Int32) (aa : Int32) (wh : Int32) (hpe : td.2.2.2.2.2.1 ≤ 6) : Met l yX7_order wsX7_order rm_X7_order (va_Pc [.ref (ad 0), .int set, .int aa, .int wh] (sR D cI cL cZ A (xW cI cL cZ ad tx td dr dy lb pn ps ks si kb))) (va_Qi (fun (r : Int32) (u : (Nat → Int32)) => r = (f_X7_order td dy lb set aa wh).1 ∧ u = (f_X7_order td dy lb set aa wh).2) (fun (u : (Nat → Int32)) t => va_P D vwCl (xW cI cL cZ ad tx td dr dy u pn ps ks si kb) t.heap) A) 0 0 A := by
  refine Met.ofW (cc := cX7_order) (maxL := 5) (ret := (some .int)) (by decide) rfl ?_
  intro p e s m args below meth c s₁ B hml hv
  obtain ⟨rfl, hP, hK, hD, hE⟩ := hv
  have hx := B.exec
  have hb := B.bytes
  have hr := B.returns
  have hts := atoms_spec (ws := wsX7_order) B.pre
  have hown : s.vm.findClass RX7 = some m.cls := findClass_of_methodNamed B.named
  have hlocks := B.notSynchronized
  have hS : va_S A s.heap s.heap [] := va_S.rf
  have hl := lv_entry ([.ref (ad 0), .int set, .int aa, .int wh]) (n := 5) (Nat.le_of_ble_eq_true rfl)
  rw [lg_entry_eq]
  generalize (lg_sl ([.ref (ad 0), .int set, .int aa, .int wh]) ++ List.replicate (5 - (lg_sl ([.ref (ad 0), .int set, .int aa, .int wh])).length) Slot.unset).toArray = ls at hl ⊢
  have hl : lv_has ls 5 [(0, .ref (ad 0)), (1, .int set), (2, .int aa), (3, .int wh)] := hl
  refine lv_iload_n hx hb dX7_order_0 rfl (lv_at hl 1 rfl) ?_
  refine lv_aload_n hx hb dX7_order_1 rfl (lv_at hl 0 rfl) ?_
  refine va_get (D := D) (ci := 7) (v := .ref (ad 3)) (C := RX7) (T := TX7) (N := 9) hx hb hts (by decide +kernel) hown hK hP 0 rfl rfl 1 (by decide) (hts (.fieldLink RX7 19 "SummitTime" "told" "LSummitTime$Told;") (by decide +kernel)) (fun _ h9 => h9) rfl dX7_order_2 ?_
  refine vp_callSi (va_Run.run (va_runV (As := []) (rest := [.int set]) ⟨hx, hb, hml, hown, hts⟩ (c_X6_everybody l D cI cL cZ ad A tx td dr dy lb pn ps ks si kb  ) (cwV 0 hts gX7_order_X6_everybody rfl rfl rfl (by decide +kernel) ⟨Nat.le_of_ble_eq_true rfl, Nat.le_of_ble_eq_true rfl⟩) ⟨sR_fb, va_recv hK hP (ci := 6) (q0 := 3) rfl rfl, sR_at hP hK hD hE⟩ rfl rfl hl.1 rfl (lv_room (Nat.le_of_ble_eq_true rfl)) dX7_order_5 ⟨Nat.zero_le _, Nat.zero_le _⟩)) (fun r hr => ?_)
  subst hr
  refine lv_iconst (v := (-1)) hx hb dX7_order_8 rfl ?_
  refine lv_ixor hx hb dX7_order_9 ?_
  refine lv_iand hx hb dX7_order_10 ?_
  refine lv_if_eq (tgt := 17) hx hb dX7_order_11 (by decide) (fun c_1 => ?_) (fun c_1 => ?_)
  · refine lv_iload_n hx hb dX7_order_17 rfl (lv_at hl 2 rfl) ?_
    refine lv_iconst (v := nI 0) hx hb dX7_order_18 rfl ?_
    refine lv_bipush (v := nI 59) hx hb dX7_order_19 rfl ?_
    refine vp_callSi (va_Run.run (va_runS (As := [.int aa, .int (nI 0), .int (nI 59)]) (rest := []) ⟨hx, hb, hml, hown, hts⟩ (c_X7_isWithin l aa (nI 0) (nI 59) ) (va_cwS 3 hts gX7_order_X7_isWithin rfl rfl rfl (by decide +kernel) ⟨Nat.le_of_ble_eq_true rfl, Nat.le_of_ble_eq_true rfl⟩) ⟨pR_fb, pR_at⟩ rfl rfl hl.1 rfl (lv_room (Nat.le_of_ble_eq_true rfl)) dX7_order_21 ⟨Nat.zero_le _, Nat.zero_le _⟩)) (fun r hr => ?_)
    subst hr
    refine lv_if_eq (tgt := 37) hx hb dX7_order_24 (by decide) (fun c_2 => ?_) (fun c_2 => ?_)
    · refine lv_bipush (v := (-3)) hx hb dX7_order_37 rfl ?_
      have hf : (f_X7_order td dy lb set aa wh) = ((-3 : Int32), lb) := by rw [f_X7_order, if_pos c_1, if_pos c_2]
      have hf1 : (-3 : Int32) = (f_X7_order td dy lb set aa wh).1 := by rw [hf]
      have hf2 : lb = (f_X7_order td dy lb set aa wh).2 := by rw [hf]
      exact W.iret (v := (-3 : Int32)) hx hb hr (fun t ht hW => ⟨⟨(-3 : Int32), lb, rfl, ⟨hf1, hf2⟩, va_Pt ht hP⟩, hS.F ht⟩) hS.2.2 dX7_order_39
    · refine lv_iload_n hx hb dX7_order_27 rfl (lv_at hl 3 rfl) ?_
      refine lv_iconst (v := nI 0) hx hb dX7_order_28 rfl ?_
      refine lv_bipush (v := nI 6) hx hb dX7_order_29 rfl ?_
      refine vp_callSi (va_Run.run (va_runS (As := [.int wh, .int (nI 0), .int (nI 6)]) (rest := []) ⟨hx, hb, hml, hown, hts⟩ (c_X7_isWithin l wh (nI 0) (nI 6) ) (va_cwS 3 hts gX7_order_X7_isWithin rfl rfl rfl (by decide +kernel) ⟨Nat.le_of_ble_eq_true rfl, Nat.le_of_ble_eq_true rfl⟩) ⟨pR_fb, pR_at⟩ rfl rfl hl.1 rfl (lv_room (Nat.le_of_ble_eq_true rfl)) dX7_order_31 ⟨Nat.zero_le _, Nat.zero_le _⟩)) (fun r hr => ?_)
      subst hr
      refine lv_if_ne (tgt := 40) hx hb dX7_order_34 (by decide) (fun c_3 => ?_) (fun c_3 => ?_)
      · have hwl := (isw_and (by decide) c_3).2
        have hl : lv_has ls 5 [(0, .ref (ad 0)), (1, .int set), (2, .int aa), (3, .int (nI wh.toNatClampNeg))] := by have h9 := hl; rw [(isw_and (by decide) c_3).1] at h9; exact h9
        refine lv_aload_n hx hb dX7_order_40 rfl (lv_at hl 0 rfl) ?_
        refine va_get (D := D) (ci := 7) (v := .ref (ad 18)) (C := RX7) (T := TX7) (N := 9) hx hb hts (by decide +kernel) hown hK hP 0 rfl rfl 4 (by decide) (hts (.fieldLink RX7 38 "SummitTime" "ledger" "LSummitTime$Ledger;") (by decide +kernel)) (fun _ h9 => h9) rfl dX7_order_41 ?_
        refine lv_iload_n hx hb dX7_order_44 rfl (lv_at hl 1 rfl) ?_
        refine lv_iload_n hx hb dX7_order_45 rfl (lv_at hl 2 rfl) ?_
        refine va_calli (va_runV (As := [.int set, .int aa]) (rest := []) ⟨hx, hb, hml, hown, hts⟩ (c_X1_leastInOrder l D cI cL cZ ad A tx td dr dy lb pn ps ks si kb set aa (by first | assumption | omega)) (cwV 2 hts gX7_order_X1_leastInOrder rfl rfl rfl (by decide +kernel) ⟨Nat.le_of_ble_eq_true rfl, Nat.le_of_ble_eq_true rfl⟩) ⟨sR_fb, va_recv hK hP (ci := 1) (q0 := 18) rfl rfl, sR_at hP hK hD hE⟩ rfl rfl hl.1 rfl (lv_room (Nat.le_of_ble_eq_true rfl)) dX7_order_46 ⟨Nat.zero_le _, Nat.zero_le _⟩) hS (fun q _ h => h) (fun q h => h) (fun T_469999_1 T_46_1 t H locs ht hvm hw hB hz1 hk1 hS => ?_)
        obtain ⟨hT_469999_1, hT_46_1⟩ := hw
        rw [ht] at hB
        have hP : va_P D vwCl (xW cI cL cZ ad tx td dr dy T_46_1 pn ps ks si kb) H := hB
        have hD : va_D A (xW cI cL cZ ad tx td dr dy T_46_1 pn ps ks si kb) := xW_D hD
        refine lv_istore (lv' := [(4, .int T_469999_1), (0, .ref (ad 0)), (1, .int set), (2, .int aa), (3, .int (nI wh.toNatClampNeg))]) hx hb dX7_order_49 hl (by decide) rfl (fun ls hl => ?_)
        refine lv_iload_n hx hb dX7_order_51 rfl (lv_at hl 4 rfl) ?_
        refine mv_if_eq (tgt := 61) hx hb dX7_order_52 (by decide) (by omega) (fun c_4 => ?_) (fun c_4 => ?_)
        · refine lv_iload hx hb dX7_order_61 (lv_at hl 0 rfl) ?_
          have hf : (f_X7_order td dy lb set aa wh) = (T_469999_1, T_46_1) := by rw [f_X7_order]; (try rw [← hT_469999_1]); (try rw [← hT_46_1]); first | done | rw [if_pos c_1, if_neg c_2, if_neg c_3, if_pos c_4]
          have hf1 : T_469999_1 = (f_X7_order td dy lb set aa wh).1 := by rw [hf]
          have hf2 : T_46_1 = (f_X7_order td dy lb set aa wh).2 := by rw [hf]
          exact W.iret (v := T_469999_1) hx hb hr (fun t ht hW => ⟨⟨T_469999_1, T_46_1, rfl, ⟨hf1, hf2⟩, va_Pt ht hP⟩, hS.F ht⟩) hS.2.2 dX7_order_63
        · refine lv_iload hx hb dX7_order_55 (lv_at hl 0 rfl) ?_
          refine lv_iconst (v := (-1)) hx hb dX7_order_57 rfl ?_
          refine lv_icmp_ne (tgt := 64) hx hb dX7_order_58 (by decide) (fun c_5 => ?_) (fun c_5 => ?_)
          · refine lv_aload_n hx hb dX7_order_64 rfl (lv_at hl 1 rfl) ?_
            refine va_get (D := D) (ci := 7) (v := .ref (ad 18)) (C := RX7) (T := TX7) (N := 9) hx hb hts (by decide +kernel) hown hK hP 0 rfl rfl 4 (by decide) (hts (.fieldLink RX7 38 "SummitTime" "ledger" "LSummitTime$Ledger;") (by decide +kernel)) (fun _ h9 => h9) rfl dX7_order_65 ?_
            refine lv_iload_n hx hb dX7_order_68 rfl (lv_at hl 2 rfl) ?_
            refine lv_iload_n hx hb dX7_order_69 rfl (lv_at hl 3 rfl) ?_
            refine lv_iload_n hx hb dX7_order_70 rfl (lv_at hl 4 rfl) ?_
            refine vp_callSi (va_Run.run (va_runV (As := [.int set, .int aa, .int (nI wh.toNatClampNeg)]) (rest := []) ⟨hx, hb, hml, hown, hts⟩ (c_X1_placeInOrder l D cI cL cZ ad A tx td dr dy T_46_1 pn ps ks si kb set aa wh.toNatClampNeg (by first | assumption | omega) (by first | assumption | omega)) (cwV 3 hts gX7_order_X1_placeInOrder rfl rfl rfl (by decide +kernel) ⟨Nat.le_of_ble_eq_true rfl, Nat.le_of_ble_eq_true rfl⟩) ⟨sR_fb, va_recv hK hP (ci := 1) (q0 := 18) rfl rfl, sR_at hP hK hD hE⟩ rfl rfl hl.1 rfl (lv_room (Nat.le_of_ble_eq_true rfl)) dX7_order_71 ⟨Nat.zero_le _, Nat.zero_le _⟩)) (fun r hr => ?_)
            subst hr
            have hf : (f_X7_order td dy lb set aa wh) = ((f_X1_placeInOrder td dy T_46_1 set aa wh.toNatClampNeg), T_46_1) := by rw [f_X7_order]; (try rw [← hT_469999_1]); (try rw [← hT_46_1]); first | done | rw [if_pos c_1, if_neg c_2, if_neg c_3, if_neg c_4, if_neg c_5]
            have hf1 : (f_X1_placeInOrder td dy T_46_1 set aa wh.toNatClampNeg) = (f_X7_order td dy lb set aa wh).1 := by rw [hf]
            have hf2 : T_46_1 = (f_X7_order td dy lb set aa wh).2 := by rw [hf]
            exact W.iret (v := (f_X1_placeInOrder td dy T_46_1 set aa wh.toNatClampNeg)) hx hb hr (fun t ht hW => ⟨⟨(f_X1_placeInOrder td dy T_46_1 set aa wh.toNatClampNeg), T_46_1, rfl, ⟨hf1, hf2⟩, va_Pt ht hP⟩, hS.F ht⟩) hS.2.2 dX7_order_74
          · refine lv_iload hx hb dX7_order_61 (lv_at hl 0 rfl) ?_
            have hf : (f_X7_order td dy lb set aa wh) = (T_469999_1, T_46_1) := by rw [f_X7_order]; (try rw [← hT_469999_1]); (try rw [← hT_46_1]); first | done | rw [if_pos c_1, if_neg c_2, if_neg c_3, if_neg c_4, if_pos c_5]
            have hf1 : T_469999_1 = (f_X7_order td dy lb set aa wh).1 := by rw [hf]
            have hf2 : T_46_1 = (f_X7_order td dy lb set aa wh).2 := by rw [hf]
            exact W.iret (v := T_469999_1) hx hb hr (fun t ht hW => ⟨⟨T_469999_1, T_46_1, rfl, ⟨hf1, hf2⟩, va_Pt ht hP⟩, hS.F ht⟩) hS.2.2 dX7_order_63
      · refine lv_bipush (v := (-3)) hx hb dX7_order_37 rfl ?_
        have hf : (f_X7_order td dy lb set aa wh) = ((-3 : Int32), lb) := by rw [f_X7_order, if_pos c_1, if_neg c_2, if_pos c_3]
        have hf1 : (-3 : Int32) = (f_X7_order td dy lb set aa wh).1 := by rw [hf]
        have hf2 : lb = (f_X7_order td dy lb set aa wh).2 := by rw [hf]
        exact W.iret (v := (-3 : Int32)) hx hb hr (fun t ht hW => ⟨⟨(-3 : Int32), lb, rfl, ⟨hf1, hf2⟩, va_Pt ht hP⟩, hS.F ht⟩) hS.2.2 dX7_order_39
  · refine lv_bipush (v := (-2)) hx hb dX7_order_14 rfl ?_
    have hf : (f_X7_order td dy lb set aa wh) = ((-2 : Int32), lb) := by rw [f_X7_order, if_neg c_1]
    have hf1 : (-2 : Int32) = (f_X7_order td dy lb set aa wh).1 := by rw [hf]
    have hf2 : lb = (f_X7_order td dy lb set aa wh).2 := by rw [hf]
    exact W.iret (v := (-2 : Int32)) hx hb hr (fun t ht hW => ⟨⟨(-2 : Int32), lb, rfl, ⟨hf1, hf2⟩, va_Pt ht hP⟩, hS.F ht⟩) hS.2.2 dX7_order_16
def L_X7_reached_4 (td : XTd) (dy : XDy) : Nat → Nat → Int64 → Int64
  | 0, _, x1_4 => x1_4
  | n_4 + 1, k_4, x1_4 => (L_X7_reached_4 td dy n_4 (k_4 + 1) (x1_4 ||| (f_X7_span ((f_X6_walkOf td (nI k_4)) + dy.2.2.2) (nI 59))))
def f_X7_reached (td : XTd) (dy : XDy) : Int64 := (L_X7_reached_4 td dy td.2.2.2.2.2.1 0 (0 : Int64))
abbrev rm_X7_reached : Room := { frames := 1, cells := 0, slots := 0, locals := 22 }
set_option maxHeartbeats 4000000 in
set_option maxRecDepth 100000 in
theorem c_X7_reached (l : Launch) (D : va_G) (cI cL cZ : ClassId) (ad : Nat → Nat) (A : Nat → Prop) (tx : XTx) (td : XTd) (dr : XTd) (dy : XDy) (lb : (Nat → Int32)) (pn : (Nat × Nat)) (ps : XSh) (ks : XSh) (si : XSi) (kb : Int32)  (hpe : td.2.2.2.2.2.1 ≤ 6) : Met l yX7_reached wsX7_reached rm_X7_reached (va_Pc [.ref (ad 0)] (sR D cI cL cZ A (xW cI cL cZ ad tx td dr dy lb pn ps ks si kb))) (vp_Sl (fun r => r = (f_X7_reached td dy))) 0 0 (fun _ => False) := by
  refine Met.ofW (cc := cX7_reached) (maxL := 4) (ret := (some .long)) (by decide) rfl ?_
  intro p e s m args below meth c s₁ B hml hv
  obtain ⟨rfl, hP, hK, hD, hE⟩ := hv
  have hx := B.exec
  have hb := B.bytes
  have hr := B.returns
  have hts := atoms_spec (ws := wsX7_reached) B.pre
  have hown : s.vm.findClass RX7 = some m.cls := findClass_of_methodNamed B.named
  have hlocks := B.notSynchronized
  have hl := lv_entry ([.ref (ad 0)]) (n := 4) (Nat.le_of_ble_eq_true rfl)
  rw [lg_entry_eq]
  generalize (lg_sl ([.ref (ad 0)]) ++ List.replicate (4 - (lg_sl ([.ref (ad 0)])).length) Slot.unset).toArray = ls at hl ⊢
  have hl : lv_has ls 4 [(0, .ref (ad 0))] := hl
  obtain ⟨Q, hQe⟩ : ∃ Q, Q = MQ below (vp_Sl (fun r => r = (f_X7_reached td dy))) ([.ref (ad 0)] : List Value).toArray s 0 0 (fun _ => False) := ⟨_, rfl⟩
  show W p l e (headSpec wsX7_reached rm_X7_reached).room s m ([.ref (ad 0)] : List Value).toArray below meth c s.heap [] 0 0 (MQ below (vp_Sl (fun r => r = (f_X7_reached td dy))) ([.ref (ad 0)] : List Value).toArray s 0 0 (fun _ => False)) (F0 m 0 ls [])
  rw [← hQe]
  refine lv_lconst (v := 0) hx hb dX7_reached_0 rfl ?_
  refine lv_lstore_n (lv' := [(1, .long (0 : Int64)), (0, .ref (ad 0))]) hx hb dX7_reached_1 rfl hl (by decide) rfl (fun ls hl => ?_)
  refine lv_iconst (v := nI 0) hx hb dX7_reached_2 rfl ?_
  refine lv_istore_n (lv' := [(3, .int (nI 0)), (1, .long (0 : Int64)), (0, .ref (ad 0))]) hx hb dX7_reached_3 rfl hl (by decide) rfl (fun ls hl => ?_)
  obtain ⟨T_4_1, hT_4_1⟩ : ∃ z, z = (L_X7_reached_4 td dy td.2.2.2.2.2.1 0 (0 : Int64)) := ⟨_, rfl⟩
  have hexit_4 : ∀ (ls : Array Slot), lv_has ls 4 [(1, .long T_4_1), (0, .ref (ad 0))] → W p l e (headSpec wsX7_reached rm_X7_reached).room s m ([.ref (ad 0)] : List Value).toArray below meth c s.heap [] 0 0 Q (F0 m 45 ls []) := by
    intro ls hl
    refine lv_lload_n hx hb dX7_reached_45 rfl (lv_at hl 0 rfl) ?_
    subst hQe
    have hf : (f_X7_reached td dy) = T_4_1 := by rw [f_X7_reached]; (try rw [← hT_4_1]); first | done | rfl
    exact W.lret (v := T_4_1) hx hb hr (fun t ht hW => ⟨T_4_1, rfl, hf.symm, ht⟩) (fun _ h => by cases h) dX7_reached_46
  have loop_4 : ∀ (n_4 : Nat) (k_4 : Nat) (x1_4 : Int64), (k_4 + n_4 = td.2.2.2.2.2.1) → L_X7_reached_4 td dy n_4 k_4 x1_4 = T_4_1 → ∀ (ls : Array Slot), lv_has ls 4 [(3, .int (nI k_4)), (1, .long x1_4), (0, .ref (ad 0))] → W p l e (headSpec wsX7_reached rm_X7_reached).room s m ([.ref (ad 0)] : List Value).toArray below meth c s.heap [] 0 0 Q (F0 m 4 ls []) := by
    intro n_4
    induction n_4 with
    | zero =>
      intro k_4 x1_4 hk_4 hL_4 ls hl
      refine lv_iload_n hx hb dX7_reached_4 rfl (lv_at hl 0 rfl) ?_
      refine lv_aload_n hx hb dX7_reached_5 rfl (lv_at hl 2 rfl) ?_
      refine va_get (D := D) (ci := 7) (v := .ref (ad 3)) (C := RX7) (T := TX7) (N := 9) hx hb hts (by decide +kernel) hown hK hP 0 rfl rfl 1 (by decide) (hts (.fieldLink RX7 19 "SummitTime" "told" "LSummitTime$Told;") (by decide +kernel)) (fun _ h9 => h9) rfl dX7_reached_6 ?_
      refine va_getN (D := D) (ci := 6) (v := .int (nI td.2.2.2.2.2.1)) (C := RX6) (T := TX6) (N := 7) hx hb hts (by decide +kernel) hown hK hP 3 rfl rfl 5 (by decide) (va_Nw.use rfl hE.2.2.2.2.2.2.2.2.2.2.2.2.2.2.1) (fun _ h9 => h9) rfl dX7_reached_9 ?_
      refine mv_icmp_ge (tgt := 45) hx hb dX7_reached_12 (by decide) (by omega) (by omega) (fun c_2 => ?_) (fun c_2 => (by omega : False).elim)
      have e9 : T_4_1 = x1_4 := by rw [← hL_4, L_X7_reached_4]
      have hq := hexit_4
      rw [e9] at hq
      exact hq ls  (lv_sub hl [1, 2] rfl)
    | succ n_4 ih_4 =>
      intro k_4 x1_4 hk_4 hL_4 ls hl
      refine lv_iload_n hx hb dX7_reached_4 rfl (lv_at hl 0 rfl) ?_
      refine lv_aload_n hx hb dX7_reached_5 rfl (lv_at hl 2 rfl) ?_
      refine va_get (D := D) (ci := 7) (v := .ref (ad 3)) (C := RX7) (T := TX7) (N := 9) hx hb hts (by decide +kernel) hown hK hP 0 rfl rfl 1 (by decide) (hts (.fieldLink RX7 19 "SummitTime" "told" "LSummitTime$Told;") (by decide +kernel)) (fun _ h9 => h9) rfl dX7_reached_6 ?_
      refine va_getN (D := D) (ci := 6) (v := .int (nI td.2.2.2.2.2.1)) (C := RX6) (T := TX6) (N := 7) hx hb hts (by decide +kernel) hown hK hP 3 rfl rfl 5 (by decide) (va_Nw.use rfl hE.2.2.2.2.2.2.2.2.2.2.2.2.2.2.1) (fun _ h9 => h9) rfl dX7_reached_9 ?_
      refine mv_icmp_ge (tgt := 45) hx hb dX7_reached_12 (by decide) (by omega) (by omega) (fun c_1 => (by omega : False).elim) (fun c_1 => ?_)
      refine lv_lload_n hx hb dX7_reached_15 rfl (lv_at hl 1 rfl) ?_
      refine lv_aload_n hx hb dX7_reached_16 rfl (lv_at hl 2 rfl) ?_
      refine va_get (D := D) (ci := 7) (v := .ref (ad 3)) (C := RX7) (T := TX7) (N := 9) hx hb hts (by decide +kernel) hown hK hP 0 rfl rfl 1 (by decide) (hts (.fieldLink RX7 19 "SummitTime" "told" "LSummitTime$Told;") (by decide +kernel)) (fun _ h9 => h9) rfl dX7_reached_17 ?_
      refine lv_iload_n hx hb dX7_reached_20 rfl (lv_at hl 0 rfl) ?_
      refine vp_callSi (va_Run.run (va_runV (As := [.int (nI k_4)]) (rest := [.long x1_4]) ⟨hx, hb, hml, hown, hts⟩ (c_X6_walkOf l D cI cL cZ ad A tx td dr dy lb pn ps ks si kb (nI k_4) ) (cwV 1 hts gX7_reached_X6_walkOf rfl rfl rfl (by decide +kernel) ⟨Nat.le_of_ble_eq_true rfl, Nat.le_of_ble_eq_true rfl⟩) ⟨sR_fb, va_recv hK hP (ci := 6) (q0 := 3) rfl rfl, sR_at hP hK hD hE⟩ rfl rfl hl.1 rfl (lv_room (Nat.le_of_ble_eq_true rfl)) dX7_reached_21 ⟨Nat.zero_le _, Nat.zero_le _⟩)) (fun r hr => ?_)
      subst hr
      refine lv_aload_n hx hb dX7_reached_24 rfl (lv_at hl 2 rfl) ?_
      refine va_get (D := D) (ci := 7) (v := .ref (ad 15)) (C := RX7) (T := TX7) (N := 9) hx hb hts (by decide +kernel) hown hK hP 0 rfl rfl 3 (by decide) (hts (.fieldLink RX7 29 "SummitTime" "day" "LSummitTime$Day;") (by decide +kernel)) (fun _ h9 => h9) rfl dX7_reached_25 ?_
      refine va_getN (D := D) (ci := 0) (v := .int dy.2.2.2) (C := RX0) (T := TX0) (N := 4) hx hb hts (by decide +kernel) hown hK hP 15 rfl rfl 3 (by decide) (va_Nw.use rfl hE.2.2.2.2.2.2.2.2.2.2.2.2.1) (fun _ h9 => h9) rfl dX7_reached_28 ?_
      refine lv_iadd hx hb dX7_reached_31 ?_
      refine lv_bipush (v := nI 59) hx hb dX7_reached_32 rfl ?_
      refine vp_callSl (va_Run.run (va_runS (As := [.int ((f_X6_walkOf td (nI k_4)) + dy.2.2.2), .int (nI 59)]) (rest := [.long x1_4]) ⟨hx, hb, hml, hown, hts⟩ (c_X7_span l ((f_X6_walkOf td (nI k_4)) + dy.2.2.2) (nI 59) ) (va_cwS 2 hts gX7_reached_X7_span rfl rfl rfl (by decide +kernel) ⟨Nat.le_of_ble_eq_true rfl, Nat.le_of_ble_eq_true rfl⟩) ⟨pR_fb, pR_at⟩ rfl rfl hl.1 rfl (lv_room (Nat.le_of_ble_eq_true rfl)) dX7_reached_34 ⟨Nat.zero_le _, Nat.zero_le _⟩)) (fun r hr => ?_)
      subst hr
      refine lv_lor hx hb dX7_reached_37 ?_
      refine lv_lstore_n (lv' := [(1, .long (x1_4 ||| (f_X7_span ((f_X6_walkOf td (nI k_4)) + dy.2.2.2) (nI 59)))), (3, .int (nI k_4)), (0, .ref (ad 0))]) hx hb dX7_reached_38 rfl hl (by decide) rfl (fun ls hl => ?_)
      refine mv_iinc (y := k_4 + 1) (lv' := [(3, .int (nI (k_4 + 1))), (1, .long (x1_4 ||| (f_X7_span ((f_X6_walkOf td (nI k_4)) + dy.2.2.2) (nI 59)))), (0, .ref (ad 0))]) hx hb dX7_reached_39 hl (k := 1) rfl (nI_p1 _) (by decide) rfl (fun ls hl => ?_)
      refine lv_goto (tgt := 4) hx hb dX7_reached_42 (by decide) ?_
      exact ih_4 (k_4 + 1) (x1_4 ||| (f_X7_span ((f_X6_walkOf td (nI k_4)) + dy.2.2.2) (nI 59))) (by omega) (by have e9 := hL_4; rw [L_X7_reached_4] at e9; exact e9) ls (lv_sub hl [0, 1, 2] rfl)
  exact loop_4 td.2.2.2.2.2.1 0 (0 : Int64) (by omega) hT_4_1.symm ls (lv_sub hl [0, 1, 2] rfl)
def f_X7_free (td : XTd) (dy : XDy) (pe : Int32) : Int64 := (if (f_X6_knows td pe) = 0 then (-2 : Int64) else (f_X1_freeFor td dy pe))
abbrev rm_X7_free : Room := { frames := 3, cells := 0, slots := 0, locals := 68 }
set_option maxHeartbeats 4000000 in
set_option maxRecDepth 100000 in
theorem c_X7_free (l : Launch) (D : va_G) (cI cL cZ : ClassId) (ad : Nat → Nat) (A : Nat → Prop) (tx : XTx) (td : XTd) (dr : XTd) (dy : XDy) (lb : (Nat → Int32)) (pn : (Nat × Nat)) (ps : XSh) (ks : XSh) (si : XSi) (kb : Int32) (pe : Int32) (hpe : td.2.2.2.2.2.1 ≤ 6) : Met l yX7_free wsX7_free rm_X7_free (va_Pc [.ref (ad 0), .int pe] (sR D cI cL cZ A (xW cI cL cZ ad tx td dr dy lb pn ps ks si kb))) (vp_Sl (fun r => r = (f_X7_free td dy pe))) 0 0 (fun _ => False) := by
  refine Met.ofW (cc := cX7_free) (maxL := 2) (ret := (some .long)) (by decide) rfl ?_
  intro p e s m args below meth c s₁ B hml hv
  obtain ⟨rfl, hP, hK, hD, hE⟩ := hv
  have hx := B.exec
  have hb := B.bytes
  have hr := B.returns
  have hts := atoms_spec (ws := wsX7_free) B.pre
  have hown : s.vm.findClass RX7 = some m.cls := findClass_of_methodNamed B.named
  have hlocks := B.notSynchronized
  have hl := lv_entry ([.ref (ad 0), .int pe]) (n := 2) (Nat.le_of_ble_eq_true rfl)
  rw [lg_entry_eq]
  generalize (lg_sl ([.ref (ad 0), .int pe]) ++ List.replicate (2 - (lg_sl ([.ref (ad 0), .int pe])).length) Slot.unset).toArray = ls at hl ⊢
  have hl : lv_has ls 2 [(0, .ref (ad 0)), (1, .int pe)] := hl
  refine lv_aload_n hx hb dX7_free_0 rfl (lv_at hl 0 rfl) ?_
  refine va_get (D := D) (ci := 7) (v := .ref (ad 3)) (C := RX7) (T := TX7) (N := 9) hx hb hts (by decide +kernel) hown hK hP 0 rfl rfl 1 (by decide) (hts (.fieldLink RX7 19 "SummitTime" "told" "LSummitTime$Told;") (by decide +kernel)) (fun _ h9 => h9) rfl dX7_free_1 ?_
  refine lv_iload_n hx hb dX7_free_4 rfl (lv_at hl 1 rfl) ?_
  refine vp_callSi (va_Run.run (va_runV (As := [.int pe]) (rest := []) ⟨hx, hb, hml, hown, hts⟩ (c_X6_knows l D cI cL cZ ad A tx td dr dy lb pn ps ks si kb pe ) (cwV 1 hts gX7_free_X6_knows rfl rfl rfl (by decide +kernel) ⟨Nat.le_of_ble_eq_true rfl, Nat.le_of_ble_eq_true rfl⟩) ⟨sR_fb, va_recv hK hP (ci := 6) (q0 := 3) rfl rfl, sR_at hP hK hD hE⟩ rfl rfl hl.1 rfl (lv_room (Nat.le_of_ble_eq_true rfl)) dX7_free_5 ⟨Nat.zero_le _, Nat.zero_le _⟩)) (fun r hr => ?_)
  subst hr
  refine mv_phil (v := (if (f_X6_knows td pe) = 0 then (-2 : Int64) else (f_X1_freeFor td dy pe))) (pcj := 25) (ls := ls) (rest' := []) ?_ (fun J_1 => ?_)
  · have hf : (f_X7_free td dy pe) = (if (f_X6_knows td pe) = 0 then (-2 : Int64) else (f_X1_freeFor td dy pe)) := by rw [f_X7_free]
    exact W.lret (v := (if (f_X6_knows td pe) = 0 then (-2 : Int64) else (f_X1_freeFor td dy pe))) hx hb hr (fun t ht hW => ⟨(if (f_X6_knows td pe) = 0 then (-2 : Int64) else (f_X1_freeFor td dy pe)), rfl, hf.symm, ht⟩) (fun _ h => by cases h) dX7_free_25
  · refine lv_if_eq (tgt := 22) hx hb dX7_free_8 (by decide) (fun c_2 => ?_) (fun c_2 => ?_)
    · refine lv_ldc2 (v := (-2)) hx hb hown (hts (.constantLong RX7 230 (-2)) (by decide +kernel)) dX7_free_22 ?_
      exact J_1 _ (by rw [if_pos c_2])
    · refine lv_aload_n hx hb dX7_free_11 rfl (lv_at hl 0 rfl) ?_
      refine va_get (D := D) (ci := 7) (v := .ref (ad 18)) (C := RX7) (T := TX7) (N := 9) hx hb hts (by decide +kernel) hown hK hP 0 rfl rfl 4 (by decide) (hts (.fieldLink RX7 38 "SummitTime" "ledger" "LSummitTime$Ledger;") (by decide +kernel)) (fun _ h9 => h9) rfl dX7_free_12 ?_
      refine lv_iload_n hx hb dX7_free_15 rfl (lv_at hl 1 rfl) ?_
      refine vp_callSl (va_Run.run (va_runV (As := [.int pe]) (rest := []) ⟨hx, hb, hml, hown, hts⟩ (c_X1_freeFor l D cI cL cZ ad A tx td dr dy lb pn ps ks si kb pe (by first | assumption | omega)) (cwV 1 hts gX7_free_X1_freeFor rfl rfl rfl (by decide +kernel) ⟨Nat.le_of_ble_eq_true rfl, Nat.le_of_ble_eq_true rfl⟩) ⟨sR_fb, va_recv hK hP (ci := 1) (q0 := 18) rfl rfl, sR_at hP hK hD hE⟩ rfl rfl hl.1 rfl (lv_room (Nat.le_of_ble_eq_true rfl)) dX7_free_16 ⟨Nat.zero_le _, Nat.zero_le _⟩)) (fun r hr => ?_)
      subst hr
      refine lv_goto (tgt := 25) hx hb dX7_free_19 (by decide) ?_
      exact J_1 _ (by rw [if_neg c_2])
def L_X7_ropes_17 (td : XTd) (dy : XDy) (nn : Int32) : Nat → Nat → Int32 → Int32
  | 0, _, x2_17 => x2_17
  | n_17 + 1, k_17, x2_17 => (if ((f_X1_wholeFine td dy (nI k_17) dy.2.2.2) / (nI 2)) ≤ nn then (if (f_X1_wholeFine td dy (nI k_17) dy.2.2.2) ≤ nn then (L_X7_ropes_17 td dy nn n_17 (k_17 + 1) x2_17) else (L_X7_ropes_17 td dy nn n_17 (k_17 + 1) (x2_17 ||| ((nI 1) <<< ((nI k_17) &&& 31))))) else (-1 : Int32))
def f_X7_ropes (td : XTd) (dy : XDy) (nn : Int32) : Int32 := (if (f_X7_isWithin nn (nI 0) (nI 99)) = 0 then (-3 : Int32) else (L_X7_ropes_17 td dy nn td.2.2.2.2.2.1 0 (nI 0)))
abbrev rm_X7_ropes : Room := { frames := 4, cells := 0, slots := 0, locals := 99 }
set_option maxHeartbeats 4000000 in
set_option maxRecDepth 100000 in
theorem c_X7_ropes (l : Launch) (D : va_G) (cI cL cZ : ClassId) (ad : Nat → Nat) (A : Nat → Prop) (tx : XTx) (td : XTd) (dr : XTd) (dy : XDy) (lb : (Nat → Int32)) (pn : (Nat × Nat)) (ps : XSh) (ks : XSh) (si : XSi) (kb : Int32) (nn : Int32) (hpe : td.2.2.2.2.2.1 ≤ 6) : Met l yX7_ropes wsX7_ropes rm_X7_ropes (va_Pc [.ref (ad 0), .int nn] (sR D cI cL cZ A (xW cI cL cZ ad tx td dr dy lb pn ps ks si kb))) (vp_Si (fun r => r = (f_X7_ropes td dy nn))) 0 0 (fun _ => False) := by
  refine Met.ofW (cc := cX7_ropes) (maxL := 5) (ret := (some .int)) (by decide) rfl ?_
  intro p e s m args below meth c s₁ B hml hv
  obtain ⟨rfl, hP, hK, hD, hE⟩ := hv
  have hx := B.exec
  have hb := B.bytes
  have hr := B.returns
  have hts := atoms_spec (ws := wsX7_ropes) B.pre
  have hown : s.vm.findClass RX7 = some m.cls := findClass_of_methodNamed B.named
  have hlocks := B.notSynchronized
  have hl := lv_entry ([.ref (ad 0), .int nn]) (n := 5) (Nat.le_of_ble_eq_true rfl)
  rw [lg_entry_eq]
  generalize (lg_sl ([.ref (ad 0), .int nn]) ++ List.replicate (5 - (lg_sl ([.ref (ad 0), .int nn])).length) Slot.unset).toArray = ls at hl ⊢
  have hl : lv_has ls 5 [(0, .ref (ad 0)), (1, .int nn)] := hl
  obtain ⟨Q, hQe⟩ : ∃ Q, Q = MQ below (vp_Si (fun r => r = (f_X7_ropes td dy nn))) ([.ref (ad 0), .int nn] : List Value).toArray s 0 0 (fun _ => False) := ⟨_, rfl⟩
  show W p l e (headSpec wsX7_ropes rm_X7_ropes).room s m ([.ref (ad 0), .int nn] : List Value).toArray below meth c s.heap [] 0 0 (MQ below (vp_Si (fun r => r = (f_X7_ropes td dy nn))) ([.ref (ad 0), .int nn] : List Value).toArray s 0 0 (fun _ => False)) (F0 m 0 ls [])
  rw [← hQe]
  obtain ⟨RES, hRES⟩ : ∃ z, z = (f_X7_ropes td dy nn) := ⟨_, rfl⟩
  refine lv_iload_n hx hb dX7_ropes_0 rfl (lv_at hl 1 rfl) ?_
  refine lv_iconst (v := nI 0) hx hb dX7_ropes_1 rfl ?_
  refine lv_bipush (v := nI 99) hx hb dX7_ropes_2 rfl ?_
  refine vp_callSi (va_Run.run (va_runS (As := [.int nn, .int (nI 0), .int (nI 99)]) (rest := []) ⟨hx, hb, hml, hown, hts⟩ (c_X7_isWithin l nn (nI 0) (nI 99) ) (va_cwS 3 hts gX7_ropes_X7_isWithin rfl rfl rfl (by decide +kernel) ⟨Nat.le_of_ble_eq_true rfl, Nat.le_of_ble_eq_true rfl⟩) ⟨pR_fb, pR_at⟩ rfl rfl hl.1 rfl (lv_room (Nat.le_of_ble_eq_true rfl)) dX7_ropes_4 ⟨Nat.zero_le _, Nat.zero_le _⟩)) (fun r hr => ?_)
  subst hr
  refine lv_if_ne (tgt := 13) hx hb dX7_ropes_7 (by decide) (fun c_1 => ?_) (fun c_1 => ?_)
  · refine lv_iconst (v := nI 0) hx hb dX7_ropes_13 rfl ?_
    refine lv_istore_n (lv' := [(2, .int (nI 0)), (0, .ref (ad 0)), (1, .int nn)]) hx hb dX7_ropes_14 rfl hl (by decide) rfl (fun ls hl => ?_)
    refine lv_iconst (v := nI 0) hx hb dX7_ropes_15 rfl ?_
    refine lv_istore_n (lv' := [(3, .int (nI 0)), (2, .int (nI 0)), (0, .ref (ad 0)), (1, .int nn)]) hx hb dX7_ropes_16 rfl hl (by decide) rfl (fun ls hl => ?_)
    have loop_17 : ∀ (n_17 : Nat) (k_17 : Nat) (x2_17 : Int32), (k_17 + n_17 = td.2.2.2.2.2.1) → L_X7_ropes_17 td dy nn n_17 k_17 x2_17 = RES → ∀ (ls : Array Slot), lv_has ls 5 [(3, .int (nI k_17)), (2, .int x2_17), (0, .ref (ad 0)), (1, .int nn)] → W p l e (headSpec wsX7_ropes rm_X7_ropes).room s m ([.ref (ad 0), .int nn] : List Value).toArray below meth c s.heap [] 0 0 Q (F0 m 17 ls []) := by
      intro n_17
      induction n_17 with
      | zero =>
        intro k_17 x2_17 hk_17 hL_17 ls hl
        refine lv_iload_n hx hb dX7_ropes_17 rfl (lv_at hl 0 rfl) ?_
        refine lv_aload_n hx hb dX7_ropes_18 rfl (lv_at hl 2 rfl) ?_
        refine va_get (D := D) (ci := 7) (v := .ref (ad 3)) (C := RX7) (T := TX7) (N := 9) hx hb hts (by decide +kernel) hown hK hP 0 rfl rfl 1 (by decide) (hts (.fieldLink RX7 19 "SummitTime" "told" "LSummitTime$Told;") (by decide +kernel)) (fun _ h9 => h9) rfl dX7_ropes_19 ?_
        refine va_getN (D := D) (ci := 6) (v := .int (nI td.2.2.2.2.2.1)) (C := RX6) (T := TX6) (N := 7) hx hb hts (by decide +kernel) hown hK hP 3 rfl rfl 5 (by decide) (va_Nw.use rfl hE.2.2.2.2.2.2.2.2.2.2.2.2.2.2.1) (fun _ h9 => h9) rfl dX7_ropes_22 ?_
        refine mv_icmp_ge (tgt := 73) hx hb dX7_ropes_25 (by decide) (by omega) (by omega) (fun c_5 => ?_) (fun c_5 => (by omega : False).elim)
        refine lv_iload_n hx hb dX7_ropes_73 rfl (lv_at hl 1 rfl) ?_
        subst hQe
        have hf : (f_X7_ropes td dy nn) = x2_17 := by rw [← hRES, ← hL_17, L_X7_ropes_17]
        exact W.iret (v := x2_17) hx hb hr (fun t ht hW => ⟨x2_17, rfl, hf.symm, ht⟩) (fun _ h => by cases h) dX7_ropes_74
      | succ n_17 ih_17 =>
        intro k_17 x2_17 hk_17 hL_17 ls hl
        refine lv_iload_n hx hb dX7_ropes_17 rfl (lv_at hl 0 rfl) ?_
        refine lv_aload_n hx hb dX7_ropes_18 rfl (lv_at hl 2 rfl) ?_
        refine va_get (D := D) (ci := 7) (v := .ref (ad 3)) (C := RX7) (T := TX7) (N := 9) hx hb hts (by decide +kernel) hown hK hP 0 rfl rfl 1 (by decide) (hts (.fieldLink RX7 19 "SummitTime" "told" "LSummitTime$Told;") (by decide +kernel)) (fun _ h9 => h9) rfl dX7_ropes_19 ?_
        refine va_getN (D := D) (ci := 6) (v := .int (nI td.2.2.2.2.2.1)) (C := RX6) (T := TX6) (N := 7) hx hb hts (by decide +kernel) hown hK hP 3 rfl rfl 5 (by decide) (va_Nw.use rfl hE.2.2.2.2.2.2.2.2.2.2.2.2.2.2.1) (fun _ h9 => h9) rfl dX7_ropes_22 ?_
        refine mv_icmp_ge (tgt := 73) hx hb dX7_ropes_25 (by decide) (by omega) (by omega) (fun c_2 => (by omega : False).elim) (fun c_2 => ?_)
        refine lv_aload_n hx hb dX7_ropes_28 rfl (lv_at hl 2 rfl) ?_
        refine va_get (D := D) (ci := 7) (v := .ref (ad 18)) (C := RX7) (T := TX7) (N := 9) hx hb hts (by decide +kernel) hown hK hP 0 rfl rfl 4 (by decide) (hts (.fieldLink RX7 38 "SummitTime" "ledger" "LSummitTime$Ledger;") (by decide +kernel)) (fun _ h9 => h9) rfl dX7_ropes_29 ?_
        refine lv_iload_n hx hb dX7_ropes_32 rfl (lv_at hl 0 rfl) ?_
        refine lv_aload_n hx hb dX7_ropes_33 rfl (lv_at hl 2 rfl) ?_
        refine va_get (D := D) (ci := 7) (v := .ref (ad 15)) (C := RX7) (T := TX7) (N := 9) hx hb hts (by decide +kernel) hown hK hP 0 rfl rfl 3 (by decide) (hts (.fieldLink RX7 29 "SummitTime" "day" "LSummitTime$Day;") (by decide +kernel)) (fun _ h9 => h9) rfl dX7_ropes_34 ?_
        refine va_getN (D := D) (ci := 0) (v := .int dy.2.2.2) (C := RX0) (T := TX0) (N := 4) hx hb hts (by decide +kernel) hown hK hP 15 rfl rfl 3 (by decide) (va_Nw.use rfl hE.2.2.2.2.2.2.2.2.2.2.2.2.1) (fun _ h9 => h9) rfl dX7_ropes_37 ?_
        refine vp_callSi (va_Run.run (va_runV (As := [.int (nI k_17), .int dy.2.2.2]) (rest := []) ⟨hx, hb, hml, hown, hts⟩ (c_X1_wholeFine l D cI cL cZ ad A tx td dr dy lb pn ps ks si kb (nI k_17) dy.2.2.2 (by first | assumption | omega)) (cwV 2 hts gX7_ropes_X1_wholeFine rfl rfl rfl (by decide +kernel) ⟨Nat.le_of_ble_eq_true rfl, Nat.le_of_ble_eq_true rfl⟩) ⟨sR_fb, va_recv hK hP (ci := 1) (q0 := 18) rfl rfl, sR_at hP hK hD hE⟩ rfl rfl hl.1 rfl (lv_room (Nat.le_of_ble_eq_true rfl)) dX7_ropes_40 ⟨Nat.zero_le _, Nat.zero_le _⟩)) (fun r hr => ?_)
        subst hr
        refine lv_istore (lv' := [(4, .int (f_X1_wholeFine td dy (nI k_17) dy.2.2.2)), (3, .int (nI k_17)), (2, .int x2_17), (0, .ref (ad 0)), (1, .int nn)]) hx hb dX7_ropes_43 hl (by decide) rfl (fun ls hl => ?_)
        refine lv_iload hx hb dX7_ropes_45 (lv_at hl 0 rfl) ?_
        refine lv_iconst (v := nI 2) hx hb dX7_ropes_47 rfl ?_
        refine lv_idiv hx hb dX7_ropes_48 (by decide) ?_
        refine lv_iload_n hx hb dX7_ropes_49 rfl (lv_at hl 4 rfl) ?_
        refine lv_icmp_le (tgt := 55) hx hb dX7_ropes_50 (by decide) (fun c_3 => ?_) (fun c_3 => ?_)
        · refine lv_iload hx hb dX7_ropes_55 (lv_at hl 0 rfl) ?_
          refine lv_iload_n hx hb dX7_ropes_57 rfl (lv_at hl 4 rfl) ?_
          refine lv_icmp_le (tgt := 67) hx hb dX7_ropes_58 (by decide) (fun c_4 => ?_) (fun c_4 => ?_)
          · refine mv_iinc (y := k_17 + 1) (lv' := [(3, .int (nI (k_17 + 1))), (4, .int (f_X1_wholeFine td dy (nI k_17) dy.2.2.2)), (2, .int x2_17), (0, .ref (ad 0)), (1, .int nn)]) hx hb dX7_ropes_67 hl (k := 1) rfl (nI_p1 _) (by decide) rfl (fun ls hl => ?_)
            refine lv_goto (tgt := 17) hx hb dX7_ropes_70 (by decide) ?_
            exact ih_17 (k_17 + 1) x2_17 (by omega) (by have e9 := hL_17; rw [L_X7_ropes_17, if_pos c_3, if_pos c_4] at e9; exact e9) ls (lv_sub hl [0, 2, 3, 4] rfl)
          · refine lv_iload_n hx hb dX7_ropes_61 rfl (lv_at hl 2 rfl) ?_
            refine lv_iconst (v := nI 1) hx hb dX7_ropes_62 rfl ?_
            refine lv_iload_n hx hb dX7_ropes_63 rfl (lv_at hl 1 rfl) ?_
            refine lv_ishl hx hb dX7_ropes_64 ?_
            refine lv_ior hx hb dX7_ropes_65 ?_
            refine lv_istore_n (lv' := [(2, .int (x2_17 ||| ((nI 1) <<< ((nI k_17) &&& 31)))), (4, .int (f_X1_wholeFine td dy (nI k_17) dy.2.2.2)), (3, .int (nI k_17)), (0, .ref (ad 0)), (1, .int nn)]) hx hb dX7_ropes_66 rfl hl (by decide) rfl (fun ls hl => ?_)
            refine mv_iinc (y := k_17 + 1) (lv' := [(3, .int (nI (k_17 + 1))), (2, .int (x2_17 ||| ((nI 1) <<< ((nI k_17) &&& 31)))), (4, .int (f_X1_wholeFine td dy (nI k_17) dy.2.2.2)), (0, .ref (ad 0)), (1, .int nn)]) hx hb dX7_ropes_67 hl (k := 2) rfl (nI_p1 _) (by decide) rfl (fun ls hl => ?_)
            refine lv_goto (tgt := 17) hx hb dX7_ropes_70 (by decide) ?_
            exact ih_17 (k_17 + 1) (x2_17 ||| ((nI 1) <<< ((nI k_17) &&& 31))) (by omega) (by have e9 := hL_17; rw [L_X7_ropes_17, if_pos c_3, if_neg c_4] at e9; exact e9) ls (lv_sub hl [0, 1, 3, 4] rfl)
        · refine lv_iconst (v := (-1)) hx hb dX7_ropes_53 rfl ?_
          subst hQe
          have hf : (f_X7_ropes td dy nn) = (-1 : Int32) := by rw [← hRES, ← hL_17, L_X7_ropes_17, if_neg c_3]
          exact W.iret (v := (-1 : Int32)) hx hb hr (fun t ht hW => ⟨(-1 : Int32), rfl, hf.symm, ht⟩) (fun _ h => by cases h) dX7_ropes_54
    exact loop_17 td.2.2.2.2.2.1 0 (nI 0) (by omega) (by rw [hRES, f_X7_ropes, if_neg c_1]) ls (lv_sub hl [0, 1, 2, 3] rfl)
  · refine lv_bipush (v := (-3)) hx hb dX7_ropes_10 rfl ?_
    subst hQe
    have hf : (f_X7_ropes td dy nn) = (-3 : Int32) := by rw [f_X7_ropes, if_pos c_1]
    exact W.iret (v := (-3 : Int32)) hx hb hr (fun t ht hW => ⟨(-3 : Int32), rfl, hf.symm, ht⟩) (fun _ h => by cases h) dX7_ropes_12
def f_X7_together (td : XTd) (dy : XDy) (pe : Int32) (ot : Int32) : Int32 := (if (f_X7_areTwo td pe ot) = 0 then (-2 : Int32) else (f_J13_bitCount_95d88 ((f_X7_standsNow td dy pe) &&& (f_X7_standsNow td dy ot))))
abbrev rm_X7_together : Room := { frames := 3, cells := 0, slots := 0, locals := 67 }
set_option maxHeartbeats 4000000 in
set_option maxRecDepth 100000 in
theorem c_X7_together (l : Launch) (D : va_G) (cI cL cZ : ClassId) (ad : Nat → Nat) (A : Nat → Prop) (tx : XTx) (td : XTd) (dr : XTd) (dy : XDy) (lb : (Nat → Int32)) (pn : (Nat × Nat)) (ps : XSh) (ks : XSh) (si : XSi) (kb : Int32) (pe : Int32) (ot : Int32)  : Met l yX7_together wsX7_together rm_X7_together (va_Pc [.ref (ad 0), .int pe, .int ot] (sR D cI cL cZ A (xW cI cL cZ ad tx td dr dy lb pn ps ks si kb))) (vp_Si (fun r => r = (f_X7_together td dy pe ot))) 0 0 (fun _ => False) := by
  refine Met.ofW (cc := cX7_together) (maxL := 3) (ret := (some .int)) (by decide) rfl ?_
  intro p e s m args below meth c s₁ B hml hv
  obtain ⟨rfl, hP, hK, hD, hE⟩ := hv
  have hx := B.exec
  have hb := B.bytes
  have hr := B.returns
  have hts := atoms_spec (ws := wsX7_together) B.pre
  have hown : s.vm.findClass RX7 = some m.cls := findClass_of_methodNamed B.named
  have hlocks := B.notSynchronized
  have hl := lv_entry ([.ref (ad 0), .int pe, .int ot]) (n := 3) (Nat.le_of_ble_eq_true rfl)
  rw [lg_entry_eq]
  generalize (lg_sl ([.ref (ad 0), .int pe, .int ot]) ++ List.replicate (3 - (lg_sl ([.ref (ad 0), .int pe, .int ot])).length) Slot.unset).toArray = ls at hl ⊢
  have hl : lv_has ls 3 [(0, .ref (ad 0)), (1, .int pe), (2, .int ot)] := hl
  refine lv_aload_n hx hb dX7_together_0 rfl (lv_at hl 0 rfl) ?_
  refine lv_iload_n hx hb dX7_together_1 rfl (lv_at hl 1 rfl) ?_
  refine lv_iload_n hx hb dX7_together_2 rfl (lv_at hl 2 rfl) ?_
  refine vp_callSi (va_Run.run (va_runV (As := [.int pe, .int ot]) (rest := []) ⟨hx, hb, hml, hown, hts⟩ (c_X7_areTwo l D cI cL cZ ad A tx td dr dy lb pn ps ks si kb pe ot ) (cwV 2 hts gX7_together_X7_areTwo rfl rfl rfl (by decide +kernel) ⟨Nat.le_of_ble_eq_true rfl, Nat.le_of_ble_eq_true rfl⟩) ⟨sR_fb, va_recv hK hP (ci := 7) (q0 := 0) rfl rfl, sR_at hP hK hD hE⟩ rfl rfl hl.1 rfl (lv_room (Nat.le_of_ble_eq_true rfl)) dX7_together_3 ⟨Nat.zero_le _, Nat.zero_le _⟩)) (fun r hr => ?_)
  subst hr
  refine lv_if_ne (tgt := 12) hx hb dX7_together_6 (by decide) (fun c_1 => ?_) (fun c_1 => ?_)
  · refine lv_aload_n hx hb dX7_together_12 rfl (lv_at hl 0 rfl) ?_
    refine lv_iload_n hx hb dX7_together_13 rfl (lv_at hl 1 rfl) ?_
    refine vp_callSl (va_Run.run (va_runV (As := [.int pe]) (rest := []) ⟨hx, hb, hml, hown, hts⟩ (c_X7_standsNow l D cI cL cZ ad A tx td dr dy lb pn ps ks si kb pe ) (cwV 1 hts gX7_together_X7_standsNow rfl rfl rfl (by decide +kernel) ⟨Nat.le_of_ble_eq_true rfl, Nat.le_of_ble_eq_true rfl⟩) ⟨sR_fb, va_recv hK hP (ci := 7) (q0 := 0) rfl rfl, sR_at hP hK hD hE⟩ rfl rfl hl.1 rfl (lv_room (Nat.le_of_ble_eq_true rfl)) dX7_together_14 ⟨Nat.zero_le _, Nat.zero_le _⟩)) (fun r hr => ?_)
    subst hr
    refine lv_aload_n hx hb dX7_together_17 rfl (lv_at hl 0 rfl) ?_
    refine lv_iload_n hx hb dX7_together_18 rfl (lv_at hl 2 rfl) ?_
    refine vp_callSl (va_Run.run (va_runV (As := [.int ot]) (rest := [.long (f_X7_standsNow td dy pe)]) ⟨hx, hb, hml, hown, hts⟩ (c_X7_standsNow l D cI cL cZ ad A tx td dr dy lb pn ps ks si kb ot ) (cwV 1 hts gX7_together_X7_standsNow rfl rfl rfl (by decide +kernel) ⟨Nat.le_of_ble_eq_true rfl, Nat.le_of_ble_eq_true rfl⟩) ⟨sR_fb, va_recv hK hP (ci := 7) (q0 := 0) rfl rfl, sR_at hP hK hD hE⟩ rfl rfl hl.1 rfl (lv_room (Nat.le_of_ble_eq_true rfl)) dX7_together_19 ⟨Nat.zero_le _, Nat.zero_le _⟩)) (fun r hr => ?_)
    subst hr
    refine lv_land hx hb dX7_together_22 ?_
    refine vp_callSi (va_Run.run (va_runS (As := [.long ((f_X7_standsNow td dy pe) &&& (f_X7_standsNow td dy ot))]) (rest := []) ⟨hx, hb, hml, hown, hts⟩ (c_J13_bitCount_95d88 l ((f_X7_standsNow td dy pe) &&& (f_X7_standsNow td dy ot)) ) (va_cwS 1 hts gX7_together_J13_bitCount_95d88 rfl rfl rfl (by decide +kernel) ⟨Nat.le_of_ble_eq_true rfl, Nat.le_of_ble_eq_true rfl⟩) ⟨pR_fb, pR_at⟩ rfl rfl hl.1 rfl (lv_room (Nat.le_of_ble_eq_true rfl)) dX7_together_23 ⟨Nat.zero_le _, Nat.zero_le _⟩)) (fun r hr => ?_)
    subst hr
    have hf : (f_X7_together td dy pe ot) = (f_J13_bitCount_95d88 ((f_X7_standsNow td dy pe) &&& (f_X7_standsNow td dy ot))) := by rw [f_X7_together, if_neg c_1]
    exact W.iret (v := (f_J13_bitCount_95d88 ((f_X7_standsNow td dy pe) &&& (f_X7_standsNow td dy ot)))) hx hb hr (fun t ht hW => ⟨(f_J13_bitCount_95d88 ((f_X7_standsNow td dy pe) &&& (f_X7_standsNow td dy ot))), rfl, hf.symm, ht⟩) (fun _ h => by cases h) dX7_together_26
  · refine lv_bipush (v := (-2)) hx hb dX7_together_9 rfl ?_
    have hf : (f_X7_together td dy pe ot) = (-2 : Int32) := by rw [f_X7_together, if_pos c_1]
    exact W.iret (v := (-2 : Int32)) hx hb hr (fun t ht hW => ⟨(-2 : Int32), rfl, hf.symm, ht⟩) (fun _ h => by cases h) dX7_together_11
def f_X7_seen (td : XTd) (si : XSi) (pe : Int32) (fi : Int32) : Int32 × XSi := (if (f_X6_knows td pe) = 0 then ((-2 : Int32), si) else (if (f_X7_isWithin fi (nI 0) (nI 99)) = 0 then ((-3 : Int32), si) else ((if (f_X4_add si pe fi).1 = 0 then (-5 : Int32) else (f_X4_size (f_X4_add si pe fi).2)), (f_X4_add si pe fi).2)))
abbrev rm_X7_seen : Room := { frames := 1, cells := 0, slots := 0, locals := 22 }
set_option maxHeartbeats 4000000 in
set_option maxRecDepth 100000 in
theorem c_X7_seen (l : Launch) (D : va_G) (cI cL cZ : ClassId) (ad : Nat → Nat) (A : Nat → Prop) (tx : XTx) (td : XTd) (dr : XTd) (dy : XDy) (lb : (Nat → Int32)) (pn : (Nat × Nat)) (ps : XSh) (ks : XSh) (si : XSi) (kb : Int32) (pe : Int32) (fi : Int32) (hsi : si.2.2 ≤ 6) : Met l yX7_seen wsX7_seen rm_X7_seen (va_Pc [.ref (ad 0), .int pe, .int fi] (sR D cI cL cZ A (xW cI cL cZ ad tx td dr dy lb pn ps ks si kb))) (va_Qi (fun (r : Int32) (u : XSi) => r = (f_X7_seen td si pe fi).1 ∧ u = (f_X7_seen td si pe fi).2) (fun (u : XSi) t => va_P D vwCl (xW cI cL cZ ad tx td dr dy lb pn ps ks u kb) t.heap) A) 0 0 A := by
  refine Met.ofW (cc := cX7_seen) (maxL := 3) (ret := (some .int)) (by decide) rfl ?_
  intro p e s m args below meth c s₁ B hml hv
  obtain ⟨rfl, hP, hK, hD, hE⟩ := hv
  have hx := B.exec
  have hb := B.bytes
  have hr := B.returns
  have hts := atoms_spec (ws := wsX7_seen) B.pre
  have hown : s.vm.findClass RX7 = some m.cls := findClass_of_methodNamed B.named
  have hlocks := B.notSynchronized
  have hS : va_S A s.heap s.heap [] := va_S.rf
  have hl := lv_entry ([.ref (ad 0), .int pe, .int fi]) (n := 3) (Nat.le_of_ble_eq_true rfl)
  rw [lg_entry_eq]
  generalize (lg_sl ([.ref (ad 0), .int pe, .int fi]) ++ List.replicate (3 - (lg_sl ([.ref (ad 0), .int pe, .int fi])).length) Slot.unset).toArray = ls at hl ⊢
  have hl : lv_has ls 3 [(0, .ref (ad 0)), (1, .int pe), (2, .int fi)] := hl
  refine lv_aload_n hx hb dX7_seen_0 rfl (lv_at hl 0 rfl) ?_
  refine va_get (D := D) (ci := 7) (v := .ref (ad 3)) (C := RX7) (T := TX7) (N := 9) hx hb hts (by decide +kernel) hown hK hP 0 rfl rfl 1 (by decide) (hts (.fieldLink RX7 19 "SummitTime" "told" "LSummitTime$Told;") (by decide +kernel)) (fun _ h9 => h9) rfl dX7_seen_1 ?_
  refine lv_iload_n hx hb dX7_seen_4 rfl (lv_at hl 1 rfl) ?_
  refine vp_callSi (va_Run.run (va_runV (As := [.int pe]) (rest := []) ⟨hx, hb, hml, hown, hts⟩ (c_X6_knows l D cI cL cZ ad A tx td dr dy lb pn ps ks si kb pe ) (cwV 1 hts gX7_seen_X6_knows rfl rfl rfl (by decide +kernel) ⟨Nat.le_of_ble_eq_true rfl, Nat.le_of_ble_eq_true rfl⟩) ⟨sR_fb, va_recv hK hP (ci := 6) (q0 := 3) rfl rfl, sR_at hP hK hD hE⟩ rfl rfl hl.1 rfl (lv_room (Nat.le_of_ble_eq_true rfl)) dX7_seen_5 ⟨Nat.zero_le _, Nat.zero_le _⟩)) (fun r hr => ?_)
  subst hr
  refine lv_if_ne (tgt := 14) hx hb dX7_seen_8 (by decide) (fun c_1 => ?_) (fun c_1 => ?_)
  · refine lv_iload_n hx hb dX7_seen_14 rfl (lv_at hl 2 rfl) ?_
    refine lv_iconst (v := nI 0) hx hb dX7_seen_15 rfl ?_
    refine lv_bipush (v := nI 99) hx hb dX7_seen_16 rfl ?_
    refine vp_callSi (va_Run.run (va_runS (As := [.int fi, .int (nI 0), .int (nI 99)]) (rest := []) ⟨hx, hb, hml, hown, hts⟩ (c_X7_isWithin l fi (nI 0) (nI 99) ) (va_cwS 3 hts gX7_seen_X7_isWithin rfl rfl rfl (by decide +kernel) ⟨Nat.le_of_ble_eq_true rfl, Nat.le_of_ble_eq_true rfl⟩) ⟨pR_fb, pR_at⟩ rfl rfl hl.1 rfl (lv_room (Nat.le_of_ble_eq_true rfl)) dX7_seen_18 ⟨Nat.zero_le _, Nat.zero_le _⟩)) (fun r hr => ?_)
    subst hr
    refine lv_if_ne (tgt := 27) hx hb dX7_seen_21 (by decide) (fun c_2 => ?_) (fun c_2 => ?_)
    · refine lv_aload_n hx hb dX7_seen_27 rfl (lv_at hl 0 rfl) ?_
      refine va_get (D := D) (ci := 7) (v := .ref (ad 31)) (C := RX7) (T := TX7) (N := 9) hx hb hts (by decide +kernel) hown hK hP 0 rfl rfl 7 (by decide) (hts (.fieldLink RX7 61 "SummitTime" "sightings" "LSummitTime$Sightings;") (by decide +kernel)) (fun _ h9 => h9) rfl dX7_seen_28 ?_
      refine lv_iload_n hx hb dX7_seen_31 rfl (lv_at hl 1 rfl) ?_
      refine lv_iload_n hx hb dX7_seen_32 rfl (lv_at hl 2 rfl) ?_
      refine va_calli (va_runV (As := [.int pe, .int fi]) (rest := []) ⟨hx, hb, hml, hown, hts⟩ (c_X4_add l D cI cL cZ ad A tx td dr dy lb pn ps ks si kb pe fi (by first | assumption | omega)) (cwV 2 hts gX7_seen_X4_add rfl rfl rfl (by decide +kernel) ⟨Nat.le_of_ble_eq_true rfl, Nat.le_of_ble_eq_true rfl⟩) ⟨sR_fb, va_recv hK hP (ci := 4) (q0 := 31) rfl rfl, sR_at hP hK hD hE⟩ rfl rfl hl.1 rfl (lv_room (Nat.le_of_ble_eq_true rfl)) dX7_seen_33 ⟨Nat.zero_le _, Nat.zero_le _⟩) hS (fun q _ h => h) (fun q h => h) (fun T_339999_1 T_33_1 t H locs ht hvm hw hB hz1 hk1 hS => ?_)
      obtain ⟨hT_339999_1, hT_33_1⟩ := hw
      rw [ht] at hB
      have hP : va_P D vwCl (xW cI cL cZ ad tx td dr dy lb pn ps ks T_33_1 kb) H := hB
      have hD : va_D A (xW cI cL cZ ad tx td dr dy lb pn ps ks T_33_1 kb) := xW_D hD
      refine mv_phi (v := (if T_339999_1 = 0 then (-5 : Int32) else (f_X4_size T_33_1))) (pcj := 51) (ls := ls) (rest' := []) ?_ (fun J_3 => ?_)
      · have hf : (f_X7_seen td si pe fi) = ((if T_339999_1 = 0 then (-5 : Int32) else (f_X4_size T_33_1)), T_33_1) := by rw [f_X7_seen]; (try rw [← hT_339999_1]); (try rw [← hT_33_1]); first | done | rw [if_neg c_1, if_neg c_2]
        have hf1 : (if T_339999_1 = 0 then (-5 : Int32) else (f_X4_size T_33_1)) = (f_X7_seen td si pe fi).1 := by rw [hf]
        have hf2 : T_33_1 = (f_X7_seen td si pe fi).2 := by rw [hf]
        exact W.iret (v := (if T_339999_1 = 0 then (-5 : Int32) else (f_X4_size T_33_1))) hx hb hr (fun t ht hW => ⟨⟨(if T_339999_1 = 0 then (-5 : Int32) else (f_X4_size T_33_1)), T_33_1, rfl, ⟨hf1, hf2⟩, va_Pt ht hP⟩, hS.F ht⟩) hS.2.2 dX7_seen_51
      · refine lv_if_eq (tgt := 49) hx hb dX7_seen_36 (by decide) (fun c_4 => ?_) (fun c_4 => ?_)
        · refine lv_bipush (v := (-5)) hx hb dX7_seen_49 rfl ?_
          exact J_3 _ (by rw [if_pos c_4])
        · refine lv_aload_n hx hb dX7_seen_39 rfl (lv_at hl 0 rfl) ?_
          refine va_get (D := D) (ci := 7) (v := .ref (ad 31)) (C := RX7) (T := TX7) (N := 9) hx hb hts (by decide +kernel) hown hK hP 0 rfl rfl 7 (by decide) (hts (.fieldLink RX7 61 "SummitTime" "sightings" "LSummitTime$Sightings;") (by decide +kernel)) (fun _ h9 => h9) rfl dX7_seen_40 ?_
          refine vp_callSi (va_Run.run (va_runV (As := []) (rest := []) ⟨hx, hb, hml, hown, hts⟩ (c_X4_size l D cI cL cZ ad A tx td dr dy lb pn ps ks T_33_1 kb  ) (cwV 0 hts gX7_seen_X4_size rfl rfl rfl (by decide +kernel) ⟨Nat.le_of_ble_eq_true rfl, Nat.le_of_ble_eq_true rfl⟩) ⟨sR_fb, va_recv hK hP (ci := 4) (q0 := 31) rfl rfl, sR_at hP hK hD hE⟩ rfl rfl hl.1 rfl (lv_room (Nat.le_of_ble_eq_true rfl)) dX7_seen_43 ⟨Nat.zero_le _, Nat.zero_le _⟩)) (fun r hr => ?_)
          subst hr
          refine lv_goto (tgt := 51) hx hb dX7_seen_46 (by decide) ?_
          exact J_3 _ (by rw [if_neg c_4])
    · refine lv_bipush (v := (-3)) hx hb dX7_seen_24 rfl ?_
      have hf : (f_X7_seen td si pe fi) = ((-3 : Int32), si) := by rw [f_X7_seen, if_neg c_1, if_pos c_2]
      have hf1 : (-3 : Int32) = (f_X7_seen td si pe fi).1 := by rw [hf]
      have hf2 : si = (f_X7_seen td si pe fi).2 := by rw [hf]
      exact W.iret (v := (-3 : Int32)) hx hb hr (fun t ht hW => ⟨⟨(-3 : Int32), si, rfl, ⟨hf1, hf2⟩, va_Pt ht hP⟩, hS.F ht⟩) hS.2.2 dX7_seen_26
  · refine lv_bipush (v := (-2)) hx hb dX7_seen_11 rfl ?_
    have hf : (f_X7_seen td si pe fi) = ((-2 : Int32), si) := by rw [f_X7_seen, if_pos c_1]
    have hf1 : (-2 : Int32) = (f_X7_seen td si pe fi).1 := by rw [hf]
    have hf2 : si = (f_X7_seen td si pe fi).2 := by rw [hf]
    exact W.iret (v := (-2 : Int32)) hx hb hr (fun t ht hW => ⟨⟨(-2 : Int32), si, rfl, ⟨hf1, hf2⟩, va_Pt ht hP⟩, hS.F ht⟩) hS.2.2 dX7_seen_13
def f_X7_forget (si : XSi) : Int32 × XSi := ((f_X4_size si), (f_X4_empty si))
abbrev rm_X7_forget : Room := { frames := 1, cells := 0, slots := 0, locals := 20 }
set_option maxHeartbeats 4000000 in
set_option maxRecDepth 100000 in
theorem c_X7_forget (l : Launch) (D : va_G) (cI cL cZ : ClassId) (ad : Nat → Nat) (A : Nat → Prop) (tx : XTx) (td : XTd) (dr : XTd) (dy : XDy) (lb : (Nat → Int32)) (pn : (Nat × Nat)) (ps : XSh) (ks : XSh) (si : XSi) (kb : Int32)   : Met l yX7_forget wsX7_forget rm_X7_forget (va_Pc [.ref (ad 0)] (sR D cI cL cZ A (xW cI cL cZ ad tx td dr dy lb pn ps ks si kb))) (va_Qi (fun (r : Int32) (u : XSi) => r = (f_X7_forget si).1 ∧ u = (f_X7_forget si).2) (fun (u : XSi) t => va_P D vwCl (xW cI cL cZ ad tx td dr dy lb pn ps ks u kb) t.heap) A) 0 0 A := by
  refine Met.ofW (cc := cX7_forget) (maxL := 2) (ret := (some .int)) (by decide) rfl ?_
  intro p e s m args below meth c s₁ B hml hv
  obtain ⟨rfl, hP, hK, hD, hE⟩ := hv
  have hx := B.exec
  have hb := B.bytes
  have hr := B.returns
  have hts := atoms_spec (ws := wsX7_forget) B.pre
  have hown : s.vm.findClass RX7 = some m.cls := findClass_of_methodNamed B.named
  have hlocks := B.notSynchronized
  have hS : va_S A s.heap s.heap [] := va_S.rf
  have hl := lv_entry ([.ref (ad 0)]) (n := 2) (Nat.le_of_ble_eq_true rfl)
  rw [lg_entry_eq]
  generalize (lg_sl ([.ref (ad 0)]) ++ List.replicate (2 - (lg_sl ([.ref (ad 0)])).length) Slot.unset).toArray = ls at hl ⊢
  have hl : lv_has ls 2 [(0, .ref (ad 0))] := hl
  refine lv_aload_n hx hb dX7_forget_0 rfl (lv_at hl 0 rfl) ?_
  refine va_get (D := D) (ci := 7) (v := .ref (ad 31)) (C := RX7) (T := TX7) (N := 9) hx hb hts (by decide +kernel) hown hK hP 0 rfl rfl 7 (by decide) (hts (.fieldLink RX7 61 "SummitTime" "sightings" "LSummitTime$Sightings;") (by decide +kernel)) (fun _ h9 => h9) rfl dX7_forget_1 ?_
  refine vp_callSi (va_Run.run (va_runV (As := []) (rest := []) ⟨hx, hb, hml, hown, hts⟩ (c_X4_size l D cI cL cZ ad A tx td dr dy lb pn ps ks si kb  ) (cwV 0 hts gX7_forget_X4_size rfl rfl rfl (by decide +kernel) ⟨Nat.le_of_ble_eq_true rfl, Nat.le_of_ble_eq_true rfl⟩) ⟨sR_fb, va_recv hK hP (ci := 4) (q0 := 31) rfl rfl, sR_at hP hK hD hE⟩ rfl rfl hl.1 rfl (lv_room (Nat.le_of_ble_eq_true rfl)) dX7_forget_4 ⟨Nat.zero_le _, Nat.zero_le _⟩)) (fun r hr => ?_)
  subst hr
  refine lv_istore_n (lv' := [(1, .int (f_X4_size si)), (0, .ref (ad 0))]) hx hb dX7_forget_7 rfl hl (by decide) rfl (fun ls hl => ?_)
  refine lv_aload_n hx hb dX7_forget_8 rfl (lv_at hl 1 rfl) ?_
  refine va_get (D := D) (ci := 7) (v := .ref (ad 31)) (C := RX7) (T := TX7) (N := 9) hx hb hts (by decide +kernel) hown hK hP 0 rfl rfl 7 (by decide) (hts (.fieldLink RX7 61 "SummitTime" "sightings" "LSummitTime$Sightings;") (by decide +kernel)) (fun _ h9 => h9) rfl dX7_forget_9 ?_
  refine va_callv (va_runV (As := []) (rest := []) ⟨hx, hb, hml, hown, hts⟩ (c_X4_empty l D cI cL cZ ad A tx td dr dy lb pn ps ks si kb  ) (cwV 0 hts gX7_forget_X4_empty rfl rfl rfl (by decide +kernel) ⟨Nat.le_of_ble_eq_true rfl, Nat.le_of_ble_eq_true rfl⟩) ⟨sR_fb, va_recv hK hP (ci := 4) (q0 := 31) rfl rfl, sR_at hP hK hD hE⟩ rfl rfl hl.1 rfl (lv_room (Nat.le_of_ble_eq_true rfl)) dX7_forget_12 ⟨Nat.zero_le _, Nat.zero_le _⟩) hS (fun q _ h => h) (fun q h => h) (fun u t H locs ht hvm hw hB hz1 hk1 hS => ?_)
  subst hw
  rw [ht] at hB
  have hP : va_P D vwCl (xW cI cL cZ ad tx td dr dy lb pn ps ks (f_X4_empty si) kb) H := hB
  have hD : va_D A (xW cI cL cZ ad tx td dr dy lb pn ps ks (f_X4_empty si) kb) := xW_D hD
  refine lv_iload_n hx hb dX7_forget_15 rfl (lv_at hl 0 rfl) ?_
  have hf : (f_X7_forget si) = ((f_X4_size si), (f_X4_empty si)) := by rw [f_X7_forget]
  have hf1 : (f_X4_size si) = (f_X7_forget si).1 := by rw [hf]
  have hf2 : (f_X4_empty si) = (f_X7_forget si).2 := by rw [hf]
  exact W.iret (v := (f_X4_size si)) hx hb hr (fun t ht hW => ⟨⟨(f_X4_size si), (f_X4_empty si), rfl, ⟨hf1, hf2⟩, va_Pt ht hP⟩, hS.F ht⟩) hS.2.2 dX7_forget_16
def L_X7_clocks_4 (td : XTd) (dy : XDy) (si : XSi) : Nat → Nat → Int32 → Int32
  | 0, _, x1_4 => x1_4
  | n_4 + 1, k_4, x1_4 => (if (f_X4_fit td dy si (nI k_4)) = 0 then (L_X7_clocks_4 td dy si n_4 (k_4 + 1) x1_4) else (L_X7_clocks_4 td dy si n_4 (k_4 + 1) (x1_4 ||| ((nI 1) <<< ((nI k_4) &&& 31)))))
def f_X7_clocks (td : XTd) (dy : XDy) (si : XSi) : Int32 := (L_X7_clocks_4 td dy si 10 0 (nI 0))
abbrev rm_X7_clocks : Room := { frames := 6, cells := 0, slots := 0, locals := 144 }
set_option maxHeartbeats 4000000 in
set_option maxRecDepth 100000 in
theorem c_X7_clocks (l : Launch) (D : va_G) (cI cL cZ : ClassId) (ad : Nat → Nat) (A : Nat → Prop) (tx : XTx) (td : XTd) (dr : XTd) (dy : XDy) (lb : (Nat → Int32)) (pn : (Nat × Nat)) (ps : XSh) (ks : XSh) (si : XSi) (kb : Int32)  (hpe : td.2.2.2.2.2.1 ≤ 6) (hsi : si.2.2 ≤ 6) : Met l yX7_clocks wsX7_clocks rm_X7_clocks (va_Pc [.ref (ad 0)] (sR D cI cL cZ A (xW cI cL cZ ad tx td dr dy lb pn ps ks si kb))) (vp_Si (fun r => r = (f_X7_clocks td dy si))) 0 0 (fun _ => False) := by
  refine Met.ofW (cc := cX7_clocks) (maxL := 3) (ret := (some .int)) (by decide) rfl ?_
  intro p e s m args below meth c s₁ B hml hv
  obtain ⟨rfl, hP, hK, hD, hE⟩ := hv
  have hx := B.exec
  have hb := B.bytes
  have hr := B.returns
  have hts := atoms_spec (ws := wsX7_clocks) B.pre
  have hown : s.vm.findClass RX7 = some m.cls := findClass_of_methodNamed B.named
  have hlocks := B.notSynchronized
  have hl := lv_entry ([.ref (ad 0)]) (n := 3) (Nat.le_of_ble_eq_true rfl)
  rw [lg_entry_eq]
  generalize (lg_sl ([.ref (ad 0)]) ++ List.replicate (3 - (lg_sl ([.ref (ad 0)])).length) Slot.unset).toArray = ls at hl ⊢
  have hl : lv_has ls 3 [(0, .ref (ad 0))] := hl
  obtain ⟨Q, hQe⟩ : ∃ Q, Q = MQ below (vp_Si (fun r => r = (f_X7_clocks td dy si))) ([.ref (ad 0)] : List Value).toArray s 0 0 (fun _ => False) := ⟨_, rfl⟩
  show W p l e (headSpec wsX7_clocks rm_X7_clocks).room s m ([.ref (ad 0)] : List Value).toArray below meth c s.heap [] 0 0 (MQ below (vp_Si (fun r => r = (f_X7_clocks td dy si))) ([.ref (ad 0)] : List Value).toArray s 0 0 (fun _ => False)) (F0 m 0 ls [])
  rw [← hQe]
  refine lv_iconst (v := nI 0) hx hb dX7_clocks_0 rfl ?_
  refine lv_istore_n (lv' := [(1, .int (nI 0)), (0, .ref (ad 0))]) hx hb dX7_clocks_1 rfl hl (by decide) rfl (fun ls hl => ?_)
  refine lv_iconst (v := nI 0) hx hb dX7_clocks_2 rfl ?_
  refine lv_istore_n (lv' := [(2, .int (nI 0)), (1, .int (nI 0)), (0, .ref (ad 0))]) hx hb dX7_clocks_3 rfl hl (by decide) rfl (fun ls hl => ?_)
  obtain ⟨T_4_1, hT_4_1⟩ : ∃ z, z = (L_X7_clocks_4 td dy si 10 0 (nI 0)) := ⟨_, rfl⟩
  have hexit_4 : ∀ (ls : Array Slot), lv_has ls 3 [(1, .int T_4_1), (0, .ref (ad 0))] → W p l e (headSpec wsX7_clocks rm_X7_clocks).room s m ([.ref (ad 0)] : List Value).toArray below meth c s.heap [] 0 0 Q (F0 m 37 ls []) := by
    intro ls hl
    refine lv_iload_n hx hb dX7_clocks_37 rfl (lv_at hl 0 rfl) ?_
    subst hQe
    have hf : (f_X7_clocks td dy si) = T_4_1 := by rw [f_X7_clocks]; (try rw [← hT_4_1]); first | done | rfl
    exact W.iret (v := T_4_1) hx hb hr (fun t ht hW => ⟨T_4_1, rfl, hf.symm, ht⟩) (fun _ h => by cases h) dX7_clocks_38
  have loop_4 : ∀ (n_4 : Nat) (k_4 : Nat) (x1_4 : Int32), (k_4 + n_4 = 10) → L_X7_clocks_4 td dy si n_4 k_4 x1_4 = T_4_1 → ∀ (ls : Array Slot), lv_has ls 3 [(2, .int (nI k_4)), (1, .int x1_4), (0, .ref (ad 0))] → W p l e (headSpec wsX7_clocks rm_X7_clocks).room s m ([.ref (ad 0)] : List Value).toArray below meth c s.heap [] 0 0 Q (F0 m 4 ls []) := by
    intro n_4
    induction n_4 with
    | zero =>
      intro k_4 x1_4 hk_4 hL_4 ls hl
      refine lv_iload_n hx hb dX7_clocks_4 rfl (lv_at hl 0 rfl) ?_
      refine lv_bipush (v := nI 9) hx hb dX7_clocks_5 rfl ?_
      refine mv_icmp_gt (tgt := 37) hx hb dX7_clocks_7 (by decide) (by omega) (by decide) (fun c_3 => ?_) (fun c_3 => (by omega : False).elim)
      have e9 : T_4_1 = x1_4 := by rw [← hL_4, L_X7_clocks_4]
      have hq := hexit_4
      rw [e9] at hq
      exact hq ls  (lv_sub hl [1, 2] rfl)
    | succ n_4 ih_4 =>
      intro k_4 x1_4 hk_4 hL_4 ls hl
      refine lv_iload_n hx hb dX7_clocks_4 rfl (lv_at hl 0 rfl) ?_
      refine lv_bipush (v := nI 9) hx hb dX7_clocks_5 rfl ?_
      refine mv_icmp_gt (tgt := 37) hx hb dX7_clocks_7 (by decide) (by omega) (by decide) (fun c_1 => (by omega : False).elim) (fun c_1 => ?_)
      refine lv_aload_n hx hb dX7_clocks_10 rfl (lv_at hl 2 rfl) ?_
      refine va_get (D := D) (ci := 7) (v := .ref (ad 31)) (C := RX7) (T := TX7) (N := 9) hx hb hts (by decide +kernel) hown hK hP 0 rfl rfl 7 (by decide) (hts (.fieldLink RX7 61 "SummitTime" "sightings" "LSummitTime$Sightings;") (by decide +kernel)) (fun _ h9 => h9) rfl dX7_clocks_11 ?_
      refine lv_aload_n hx hb dX7_clocks_14 rfl (lv_at hl 2 rfl) ?_
      refine va_get (D := D) (ci := 7) (v := .ref (ad 18)) (C := RX7) (T := TX7) (N := 9) hx hb hts (by decide +kernel) hown hK hP 0 rfl rfl 4 (by decide) (hts (.fieldLink RX7 38 "SummitTime" "ledger" "LSummitTime$Ledger;") (by decide +kernel)) (fun _ h9 => h9) rfl dX7_clocks_15 ?_
      refine lv_iload_n hx hb dX7_clocks_18 rfl (lv_at hl 0 rfl) ?_
      refine vp_callSi (va_Run.run (va_runV (As := [.ref (ad 18), .int (nI k_4)]) (rest := []) ⟨hx, hb, hml, hown, hts⟩ (c_X4_fit l D cI cL cZ ad A tx td dr dy lb pn ps ks si kb (nI k_4) (by first | assumption | omega) (by first | assumption | omega)) (cwV 2 hts gX7_clocks_X4_fit rfl rfl rfl (by decide +kernel) ⟨Nat.le_of_ble_eq_true rfl, Nat.le_of_ble_eq_true rfl⟩) ⟨sR_fb, va_recv hK hP (ci := 4) (q0 := 31) rfl rfl, sR_at hP hK hD hE⟩ rfl rfl hl.1 rfl (lv_room (Nat.le_of_ble_eq_true rfl)) dX7_clocks_19 ⟨Nat.zero_le _, Nat.zero_le _⟩)) (fun r hr => ?_)
      subst hr
      refine lv_if_eq (tgt := 31) hx hb dX7_clocks_22 (by decide) (fun c_2 => ?_) (fun c_2 => ?_)
      · refine mv_iinc (y := k_4 + 1) (lv' := [(2, .int (nI (k_4 + 1))), (1, .int x1_4), (0, .ref (ad 0))]) hx hb dX7_clocks_31 hl (k := 0) rfl (nI_p1 _) (by decide) rfl (fun ls hl => ?_)
        refine lv_goto (tgt := 4) hx hb dX7_clocks_34 (by decide) ?_
        exact ih_4 (k_4 + 1) x1_4 (by omega) (by have e9 := hL_4; rw [L_X7_clocks_4, if_pos c_2] at e9; exact e9) ls (lv_sub hl [0, 1, 2] rfl)
      · refine lv_iload_n hx hb dX7_clocks_25 rfl (lv_at hl 1 rfl) ?_
        refine lv_iconst (v := nI 1) hx hb dX7_clocks_26 rfl ?_
        refine lv_iload_n hx hb dX7_clocks_27 rfl (lv_at hl 0 rfl) ?_
        refine lv_ishl hx hb dX7_clocks_28 ?_
        refine lv_ior hx hb dX7_clocks_29 ?_
        refine lv_istore_n (lv' := [(1, .int (x1_4 ||| ((nI 1) <<< ((nI k_4) &&& 31)))), (2, .int (nI k_4)), (0, .ref (ad 0))]) hx hb dX7_clocks_30 rfl hl (by decide) rfl (fun ls hl => ?_)
        refine mv_iinc (y := k_4 + 1) (lv' := [(2, .int (nI (k_4 + 1))), (1, .int (x1_4 ||| ((nI 1) <<< ((nI k_4) &&& 31)))), (0, .ref (ad 0))]) hx hb dX7_clocks_31 hl (k := 1) rfl (nI_p1 _) (by decide) rfl (fun ls hl => ?_)
        refine lv_goto (tgt := 4) hx hb dX7_clocks_34 (by decide) ?_
        exact ih_4 (k_4 + 1) (x1_4 ||| ((nI 1) <<< ((nI k_4) &&& 31))) (by omega) (by have e9 := hL_4; rw [L_X7_clocks_4, if_neg c_2] at e9; exact e9) ls (lv_sub hl [0, 1, 2] rfl)
  exact loop_4 10 0 (nI 0) (by omega) hT_4_1.symm ls (lv_sub hl [0, 1, 2] rfl)
def f_X7_clear (td : XTd) (dy : XDy) (pe : Int32) (kk : Int32) (qq : Int32) (pa : Int32) : Int32 := (if (f_X6_knows td pe) = 0 then (-2 : Int32) else (if (f_X7_isWithin kk (nI 0) (nI 6)) = 0 then (-3 : Int32) else (if (f_X7_isWithin qq (nI 0) (nI 10)) = 0 then (-3 : Int32) else (if (f_X7_isWithin pa (nI 0) (nI 1)) = 0 then (-3 : Int32) else (if nI 1 ≤ (f_X7_commonDivisor (f_X7_waysClear ((f_J13_bitCount_95d88 (f_X7_standsNow td dy pe)).toNatClampNeg) kk.toNatClampNeg qq) (f_X7_power (nI 10) ((f_J13_bitCount_95d88 (f_X7_standsNow td dy pe)).toNatClampNeg))) then ((if pa = 0 then (f_X7_waysClear ((f_J13_bitCount_95d88 (f_X7_standsNow td dy pe)).toNatClampNeg) kk.toNatClampNeg qq) else (f_X7_power (nI 10) ((f_J13_bitCount_95d88 (f_X7_standsNow td dy pe)).toNatClampNeg))) / (f_X7_commonDivisor (f_X7_waysClear ((f_J13_bitCount_95d88 (f_X7_standsNow td dy pe)).toNatClampNeg) kk.toNatClampNeg qq) (f_X7_power (nI 10) ((f_J13_bitCount_95d88 (f_X7_standsNow td dy pe)).toNatClampNeg)))) else (-1 : Int32))))))
abbrev rm_X7_clear : Room := { frames := 3, cells := 0, slots := 0, locals := 67 }
set_option maxHeartbeats 4000000 in
set_option maxRecDepth 100000 in
theorem c_X7_clear (l : Launch) (D : va_G) (cI cL cZ : ClassId) (ad : Nat → Nat) (A : Nat → Prop) (tx : XTx) (td : XTd) (dr : XTd) (dy : XDy) (lb : (Nat → Int32)) (pn : (Nat × Nat)) (ps : XSh) (ks : XSh) (si : XSi) (kb : Int32) (pe : Int32) (kk : Int32) (qq : Int32) (pa : Int32) (hbc : (f_J13_bitCount_95d88 (f_X7_standsNow td dy pe)) = nI (f_J13_bitCount_95d88 (f_X7_standsNow td dy pe)).toNatClampNeg ∧ (f_J13_bitCount_95d88 (f_X7_standsNow td dy pe)).toNatClampNeg ≤ 6) : Met l yX7_clear wsX7_clear rm_X7_clear (va_Pc [.ref (ad 0), .int pe, .int kk, .int qq, .int pa] (sR D cI cL cZ A (xW cI cL cZ ad tx td dr dy lb pn ps ks si kb))) (vp_Si (fun r => r = (f_X7_clear td dy pe kk qq pa))) 0 0 (fun _ => False) := by
  refine Met.ofW (cc := cX7_clear) (maxL := 9) (ret := (some .int)) (by decide) rfl ?_
  intro p e s m args below meth c s₁ B hml hv
  obtain ⟨rfl, hP, hK, hD, hE⟩ := hv
  have hx := B.exec
  have hb := B.bytes
  have hr := B.returns
  have hts := atoms_spec (ws := wsX7_clear) B.pre
  have hown : s.vm.findClass RX7 = some m.cls := findClass_of_methodNamed B.named
  have hlocks := B.notSynchronized
  have hl := lv_entry ([.ref (ad 0), .int pe, .int kk, .int qq, .int pa]) (n := 9) (Nat.le_of_ble_eq_true rfl)
  rw [lg_entry_eq]
  generalize (lg_sl ([.ref (ad 0), .int pe, .int kk, .int qq, .int pa]) ++ List.replicate (9 - (lg_sl ([.ref (ad 0), .int pe, .int kk, .int qq, .int pa])).length) Slot.unset).toArray = ls at hl ⊢
  have hl : lv_has ls 9 [(0, .ref (ad 0)), (1, .int pe), (2, .int kk), (3, .int qq), (4, .int pa)] := hl
  refine lv_aload_n hx hb dX7_clear_0 rfl (lv_at hl 0 rfl) ?_
  refine va_get (D := D) (ci := 7) (v := .ref (ad 3)) (C := RX7) (T := TX7) (N := 9) hx hb hts (by decide +kernel) hown hK hP 0 rfl rfl 1 (by decide) (hts (.fieldLink RX7 19 "SummitTime" "told" "LSummitTime$Told;") (by decide +kernel)) (fun _ h9 => h9) rfl dX7_clear_1 ?_
  refine lv_iload_n hx hb dX7_clear_4 rfl (lv_at hl 1 rfl) ?_
  refine vp_callSi (va_Run.run (va_runV (As := [.int pe]) (rest := []) ⟨hx, hb, hml, hown, hts⟩ (c_X6_knows l D cI cL cZ ad A tx td dr dy lb pn ps ks si kb pe ) (cwV 1 hts gX7_clear_X6_knows rfl rfl rfl (by decide +kernel) ⟨Nat.le_of_ble_eq_true rfl, Nat.le_of_ble_eq_true rfl⟩) ⟨sR_fb, va_recv hK hP (ci := 6) (q0 := 3) rfl rfl, sR_at hP hK hD hE⟩ rfl rfl hl.1 rfl (lv_room (Nat.le_of_ble_eq_true rfl)) dX7_clear_5 ⟨Nat.zero_le _, Nat.zero_le _⟩)) (fun r hr => ?_)
  subst hr
  refine lv_if_ne (tgt := 14) hx hb dX7_clear_8 (by decide) (fun c_1 => ?_) (fun c_1 => ?_)
  · refine lv_iload_n hx hb dX7_clear_14 rfl (lv_at hl 2 rfl) ?_
    refine lv_iconst (v := nI 0) hx hb dX7_clear_15 rfl ?_
    refine lv_bipush (v := nI 6) hx hb dX7_clear_16 rfl ?_
    refine vp_callSi (va_Run.run (va_runS (As := [.int kk, .int (nI 0), .int (nI 6)]) (rest := []) ⟨hx, hb, hml, hown, hts⟩ (c_X7_isWithin l kk (nI 0) (nI 6) ) (va_cwS 3 hts gX7_clear_X7_isWithin rfl rfl rfl (by decide +kernel) ⟨Nat.le_of_ble_eq_true rfl, Nat.le_of_ble_eq_true rfl⟩) ⟨pR_fb, pR_at⟩ rfl rfl hl.1 rfl (lv_room (Nat.le_of_ble_eq_true rfl)) dX7_clear_18 ⟨Nat.zero_le _, Nat.zero_le _⟩)) (fun r hr => ?_)
    subst hr
    refine lv_if_eq (tgt := 44) hx hb dX7_clear_21 (by decide) (fun c_2 => ?_) (fun c_2 => ?_)
    · refine lv_bipush (v := (-3)) hx hb dX7_clear_44 rfl ?_
      have hf : (f_X7_clear td dy pe kk qq pa) = (-3 : Int32) := by rw [f_X7_clear, if_neg c_1, if_pos c_2]
      exact W.iret (v := (-3 : Int32)) hx hb hr (fun t ht hW => ⟨(-3 : Int32), rfl, hf.symm, ht⟩) (fun _ h => by cases h) dX7_clear_46
    · refine lv_iload_n hx hb dX7_clear_24 rfl (lv_at hl 3 rfl) ?_
      refine lv_iconst (v := nI 0) hx hb dX7_clear_25 rfl ?_
      refine lv_bipush (v := nI 10) hx hb dX7_clear_26 rfl ?_
      refine vp_callSi (va_Run.run (va_runS (As := [.int qq, .int (nI 0), .int (nI 10)]) (rest := []) ⟨hx, hb, hml, hown, hts⟩ (c_X7_isWithin l qq (nI 0) (nI 10) ) (va_cwS 3 hts gX7_clear_X7_isWithin rfl rfl rfl (by decide +kernel) ⟨Nat.le_of_ble_eq_true rfl, Nat.le_of_ble_eq_true rfl⟩) ⟨pR_fb, pR_at⟩ rfl rfl hl.1 rfl (lv_room (Nat.le_of_ble_eq_true rfl)) dX7_clear_28 ⟨Nat.zero_le _, Nat.zero_le _⟩)) (fun r hr => ?_)
      subst hr
      refine lv_if_eq (tgt := 44) hx hb dX7_clear_31 (by decide) (fun c_3 => ?_) (fun c_3 => ?_)
      · refine lv_bipush (v := (-3)) hx hb dX7_clear_44 rfl ?_
        have hf : (f_X7_clear td dy pe kk qq pa) = (-3 : Int32) := by rw [f_X7_clear, if_neg c_1, if_neg c_2, if_pos c_3]
        exact W.iret (v := (-3 : Int32)) hx hb hr (fun t ht hW => ⟨(-3 : Int32), rfl, hf.symm, ht⟩) (fun _ h => by cases h) dX7_clear_46
      · refine lv_iload hx hb dX7_clear_34 (lv_at hl 4 rfl) ?_
        refine lv_iconst (v := nI 0) hx hb dX7_clear_36 rfl ?_
        refine lv_iconst (v := nI 1) hx hb dX7_clear_37 rfl ?_
        refine vp_callSi (va_Run.run (va_runS (As := [.int pa, .int (nI 0), .int (nI 1)]) (rest := []) ⟨hx, hb, hml, hown, hts⟩ (c_X7_isWithin l pa (nI 0) (nI 1) ) (va_cwS 3 hts gX7_clear_X7_isWithin rfl rfl rfl (by decide +kernel) ⟨Nat.le_of_ble_eq_true rfl, Nat.le_of_ble_eq_true rfl⟩) ⟨pR_fb, pR_at⟩ rfl rfl hl.1 rfl (lv_room (Nat.le_of_ble_eq_true rfl)) dX7_clear_38 ⟨Nat.zero_le _, Nat.zero_le _⟩)) (fun r hr => ?_)
        subst hr
        refine lv_if_ne (tgt := 47) hx hb dX7_clear_41 (by decide) (fun c_4 => ?_) (fun c_4 => ?_)
        · have hkl := (isw_and (by decide) c_2).2
          have hl : lv_has ls 9 [(0, .ref (ad 0)), (1, .int pe), (2, .int (nI kk.toNatClampNeg)), (3, .int qq), (4, .int pa)] := by have h9 := hl; rw [(isw_and (by decide) c_2).1] at h9; exact h9
          refine lv_aload_n hx hb dX7_clear_47 rfl (lv_at hl 0 rfl) ?_
          refine lv_iload_n hx hb dX7_clear_48 rfl (lv_at hl 1 rfl) ?_
          refine vp_callSl (va_Run.run (va_runV (As := [.int pe]) (rest := []) ⟨hx, hb, hml, hown, hts⟩ (c_X7_standsNow l D cI cL cZ ad A tx td dr dy lb pn ps ks si kb pe ) (cwV 1 hts gX7_clear_X7_standsNow rfl rfl rfl (by decide +kernel) ⟨Nat.le_of_ble_eq_true rfl, Nat.le_of_ble_eq_true rfl⟩) ⟨sR_fb, va_recv hK hP (ci := 7) (q0 := 0) rfl rfl, sR_at hP hK hD hE⟩ rfl rfl hl.1 rfl (lv_room (Nat.le_of_ble_eq_true rfl)) dX7_clear_49 ⟨Nat.zero_le _, Nat.zero_le _⟩)) (fun r hr => ?_)
          subst hr
          refine vp_callSi (va_Run.run (va_runS (As := [.long (f_X7_standsNow td dy pe)]) (rest := []) ⟨hx, hb, hml, hown, hts⟩ (c_J13_bitCount_95d88 l (f_X7_standsNow td dy pe) ) (va_cwS 1 hts gX7_clear_J13_bitCount_95d88 rfl rfl rfl (by decide +kernel) ⟨Nat.le_of_ble_eq_true rfl, Nat.le_of_ble_eq_true rfl⟩) ⟨pR_fb, pR_at⟩ rfl rfl hl.1 rfl (lv_room (Nat.le_of_ble_eq_true rfl)) dX7_clear_52 ⟨Nat.zero_le _, Nat.zero_le _⟩)) (fun r hr => ?_)
          subst hr
          obtain ⟨T_52_1, hT_52_1⟩ : ∃ z, z = (f_J13_bitCount_95d88 (f_X7_standsNow td dy pe)).toNatClampNeg := ⟨_, rfl⟩
          refine mv_top (y := nI T_52_1) (by rw [hT_52_1]; exact hbc.1) ?_
          have hN : T_52_1 ≤ 6 := by rw [hT_52_1]; exact hbc.2
          refine lv_istore (lv' := [(5, .int (nI T_52_1)), (0, .ref (ad 0)), (1, .int pe), (2, .int (nI kk.toNatClampNeg)), (3, .int qq), (4, .int pa)]) hx hb dX7_clear_55 hl (by decide) rfl (fun ls hl => ?_)
          refine lv_iload hx hb dX7_clear_57 (lv_at hl 0 rfl) ?_
          refine lv_iload_n hx hb dX7_clear_59 rfl (lv_at hl 3 rfl) ?_
          refine lv_iload_n hx hb dX7_clear_60 rfl (lv_at hl 4 rfl) ?_
          refine vp_callSi (va_Run.run (va_runS (As := [.int (nI T_52_1), .int (nI kk.toNatClampNeg), .int qq]) (rest := []) ⟨hx, hb, hml, hown, hts⟩ (c_X7_waysClear l T_52_1 kk.toNatClampNeg qq (by first | assumption | omega) (by first | assumption | omega)) (va_cwS 3 hts gX7_clear_X7_waysClear rfl rfl rfl (by decide +kernel) ⟨Nat.le_of_ble_eq_true rfl, Nat.le_of_ble_eq_true rfl⟩) ⟨pR_fb, pR_at⟩ rfl rfl hl.1 rfl (lv_room (Nat.le_of_ble_eq_true rfl)) dX7_clear_61 ⟨Nat.zero_le _, Nat.zero_le _⟩)) (fun r hr => ?_)
          subst hr
          refine lv_istore (lv' := [(6, .int (f_X7_waysClear T_52_1 kk.toNatClampNeg qq)), (5, .int (nI T_52_1)), (0, .ref (ad 0)), (1, .int pe), (2, .int (nI kk.toNatClampNeg)), (3, .int qq), (4, .int pa)]) hx hb dX7_clear_64 hl (by decide) rfl (fun ls hl => ?_)
          refine lv_bipush (v := nI 10) hx hb dX7_clear_66 rfl ?_
          refine lv_iload hx hb dX7_clear_68 (lv_at hl 1 rfl) ?_
          refine vp_callSi (va_Run.run (va_runS (As := [.int (nI 10), .int (nI T_52_1)]) (rest := []) ⟨hx, hb, hml, hown, hts⟩ (c_X7_power l (nI 10) T_52_1 (by first | assumption | omega)) (va_cwS 2 hts gX7_clear_X7_power rfl rfl rfl (by decide +kernel) ⟨Nat.le_of_ble_eq_true rfl, Nat.le_of_ble_eq_true rfl⟩) ⟨pR_fb, pR_at⟩ rfl rfl hl.1 rfl (lv_room (Nat.le_of_ble_eq_true rfl)) dX7_clear_70 ⟨Nat.zero_le _, Nat.zero_le _⟩)) (fun r hr => ?_)
          subst hr
          refine lv_istore (lv' := [(7, .int (f_X7_power (nI 10) T_52_1)), (6, .int (f_X7_waysClear T_52_1 kk.toNatClampNeg qq)), (5, .int (nI T_52_1)), (0, .ref (ad 0)), (1, .int pe), (2, .int (nI kk.toNatClampNeg)), (3, .int qq), (4, .int pa)]) hx hb dX7_clear_73 hl (by decide) rfl (fun ls hl => ?_)
          refine lv_iload hx hb dX7_clear_75 (lv_at hl 1 rfl) ?_
          refine lv_iload hx hb dX7_clear_77 (lv_at hl 0 rfl) ?_
          refine vp_callSi (va_Run.run (va_runS (As := [.int (f_X7_waysClear T_52_1 kk.toNatClampNeg qq), .int (f_X7_power (nI 10) T_52_1)]) (rest := []) ⟨hx, hb, hml, hown, hts⟩ (c_X7_commonDivisor l (f_X7_waysClear T_52_1 kk.toNatClampNeg qq) (f_X7_power (nI 10) T_52_1) ) (va_cwS 2 hts gX7_clear_X7_commonDivisor rfl rfl rfl (by decide +kernel) ⟨Nat.le_of_ble_eq_true rfl, Nat.le_of_ble_eq_true rfl⟩) ⟨pR_fb, pR_at⟩ rfl rfl hl.1 rfl (lv_room (Nat.le_of_ble_eq_true rfl)) dX7_clear_79 ⟨Nat.zero_le _, Nat.zero_le _⟩)) (fun r hr => ?_)
          subst hr
          refine lv_istore (lv' := [(8, .int (f_X7_commonDivisor (f_X7_waysClear T_52_1 kk.toNatClampNeg qq) (f_X7_power (nI 10) T_52_1))), (7, .int (f_X7_power (nI 10) T_52_1)), (6, .int (f_X7_waysClear T_52_1 kk.toNatClampNeg qq)), (5, .int (nI T_52_1)), (0, .ref (ad 0)), (1, .int pe), (2, .int (nI kk.toNatClampNeg)), (3, .int qq), (4, .int pa)]) hx hb dX7_clear_82 hl (by decide) rfl (fun ls hl => ?_)
          refine lv_iload hx hb dX7_clear_84 (lv_at hl 0 rfl) ?_
          refine lv_iconst (v := nI 1) hx hb dX7_clear_86 rfl ?_
          refine lv_icmp_ge (tgt := 92) hx hb dX7_clear_87 (by decide) (fun c_5 => ?_) (fun c_5 => ?_)
          · refine lv_iload hx hb dX7_clear_92 (lv_at hl 8 rfl) ?_
            refine mv_phi (v := (if pa = 0 then (f_X7_waysClear T_52_1 kk.toNatClampNeg qq) else (f_X7_power (nI 10) T_52_1))) (pcj := 104) (ls := ls) (rest' := []) ?_ (fun J_6 => ?_)
            · refine lv_iload hx hb dX7_clear_104 (lv_at hl 0 rfl) ?_
              refine lv_idiv hx hb dX7_clear_106 (by intro h9; have h8 := c_5; rw [h9] at h8; exact absurd h8 (by decide)) ?_
              have hf : (f_X7_clear td dy pe kk qq pa) = ((if pa = 0 then (f_X7_waysClear T_52_1 kk.toNatClampNeg qq) else (f_X7_power (nI 10) T_52_1)) / (f_X7_commonDivisor (f_X7_waysClear T_52_1 kk.toNatClampNeg qq) (f_X7_power (nI 10) T_52_1))) := by rw [f_X7_clear]; (try rw [← hT_52_1]); first | done | rw [if_neg c_1, if_neg c_2, if_neg c_3, if_neg c_4, if_pos c_5]
              exact W.iret (v := ((if pa = 0 then (f_X7_waysClear T_52_1 kk.toNatClampNeg qq) else (f_X7_power (nI 10) T_52_1)) / (f_X7_commonDivisor (f_X7_waysClear T_52_1 kk.toNatClampNeg qq) (f_X7_power (nI 10) T_52_1)))) hx hb hr (fun t ht hW => ⟨((if pa = 0 then (f_X7_waysClear T_52_1 kk.toNatClampNeg qq) else (f_X7_power (nI 10) T_52_1)) / (f_X7_commonDivisor (f_X7_waysClear T_52_1 kk.toNatClampNeg qq) (f_X7_power (nI 10) T_52_1))), rfl, hf.symm, ht⟩) (fun _ h => by cases h) dX7_clear_107
            · refine lv_if_ne (tgt := 102) hx hb dX7_clear_94 (by decide) (fun c_7 => ?_) (fun c_7 => ?_)
              · refine lv_iload hx hb dX7_clear_102 (lv_at hl 1 rfl) ?_
                exact J_6 _ (by rw [if_neg c_7])
              · refine lv_iload hx hb dX7_clear_97 (lv_at hl 2 rfl) ?_
                refine lv_goto (tgt := 104) hx hb dX7_clear_99 (by decide) ?_
                exact J_6 _ (by rw [if_pos c_7])
          · refine lv_iconst (v := (-1)) hx hb dX7_clear_90 rfl ?_
            have hf : (f_X7_clear td dy pe kk qq pa) = (-1 : Int32) := by rw [f_X7_clear]; (try rw [← hT_52_1]); first | done | rw [if_neg c_1, if_neg c_2, if_neg c_3, if_neg c_4, if_neg c_5]
            exact W.iret (v := (-1 : Int32)) hx hb hr (fun t ht hW => ⟨(-1 : Int32), rfl, hf.symm, ht⟩) (fun _ h => by cases h) dX7_clear_91
        · refine lv_bipush (v := (-3)) hx hb dX7_clear_44 rfl ?_
          have hf : (f_X7_clear td dy pe kk qq pa) = (-3 : Int32) := by rw [f_X7_clear, if_neg c_1, if_neg c_2, if_neg c_3, if_pos c_4]
          exact W.iret (v := (-3 : Int32)) hx hb hr (fun t ht hW => ⟨(-3 : Int32), rfl, hf.symm, ht⟩) (fun _ h => by cases h) dX7_clear_46
  · refine lv_bipush (v := (-2)) hx hb dX7_clear_11 rfl ?_
    have hf : (f_X7_clear td dy pe kk qq pa) = (-2 : Int32) := by rw [f_X7_clear, if_pos c_1]
    exact W.iret (v := (-2 : Int32)) hx hb hr (fun t ht hW => ⟨(-2 : Int32), rfl, hf.symm, ht⟩) (fun _ h => by cases h) dX7_clear_13
def f_X7_count (tx : XTx) (td : XTd) (dy : XDy) (pn : (Nat × Nat)) (si : XSi) (wh : Int32) : Int32 := (if wh = nI 0 then nI td.2.2.2.2.2.1 else (if wh = nI 1 then dy.2.2.2 else (if wh = nI 2 then (f_X0_whoGo dy) else (if wh = nI 3 then (f_X7_finesOfAll td dy) else (if wh = nI 4 then (f_J13_bitCount_95d88 (f_X0_landOfAll dy)) else (if wh = nI 5 then (f_J13_bitCount_95d88 td.2.2.2.2.2.2) else (if wh = nI 6 then dy.2.2.1 else (if wh = nI 7 then (f_X4_size si) else (if wh = nI 8 then (f_X2_size pn) else (if wh = nI 9 then (f_X5_size tx) else (-3 : Int32)))))))))))
abbrev rm_X7_count : Room := { frames := 6, cells := 0, slots := 0, locals := 143 }
set_option maxHeartbeats 4000000 in
set_option maxRecDepth 100000 in
theorem c_X7_count (l : Launch) (D : va_G) (cI cL cZ : ClassId) (ad : Nat → Nat) (A : Nat → Prop) (tx : XTx) (td : XTd) (dr : XTd) (dy : XDy) (lb : (Nat → Int32)) (pn : (Nat × Nat)) (ps : XSh) (ks : XSh) (si : XSi) (kb : Int32) (wh : Int32) (hpe : td.2.2.2.2.2.1 ≤ 6) : Met l yX7_count wsX7_count rm_X7_count (va_Pc [.ref (ad 0), .int wh] (sR D cI cL cZ A (xW cI cL cZ ad tx td dr dy lb pn ps ks si kb))) (vp_Si (fun r => r = (f_X7_count tx td dy pn si wh))) 0 0 (fun _ => False) := by
  refine Met.ofW (cc := cX7_count) (maxL := 2) (ret := (some .int)) (by decide) rfl ?_
  intro p e s m args below meth c s₁ B hml hv
  obtain ⟨rfl, hP, hK, hD, hE⟩ := hv
  have hx := B.exec
  have hb := B.bytes
  have hr := B.returns
  have hts := atoms_spec (ws := wsX7_count) B.pre
  have hown : s.vm.findClass RX7 = some m.cls := findClass_of_methodNamed B.named
  have hlocks := B.notSynchronized
  have hl := lv_entry ([.ref (ad 0), .int wh]) (n := 2) (Nat.le_of_ble_eq_true rfl)
  rw [lg_entry_eq]
  generalize (lg_sl ([.ref (ad 0), .int wh]) ++ List.replicate (2 - (lg_sl ([.ref (ad 0), .int wh])).length) Slot.unset).toArray = ls at hl ⊢
  have hl : lv_has ls 2 [(0, .ref (ad 0)), (1, .int wh)] := hl
  refine lv_iload_n hx hb dX7_count_0 rfl (lv_at hl 1 rfl) ?_
  by_cases c_1 : wh = nI 0
  · refine lv_tableIn (off := 55) (tgt := 56) hx hb dX7_count_1 (by rw [c_1]; decide) (by rw [c_1]; decide) (by rw [c_1]; decide) (by decide) ?_
    refine lv_aload_n hx hb dX7_count_56 rfl (lv_at hl 0 rfl) ?_
    refine va_get (D := D) (ci := 7) (v := .ref (ad 3)) (C := RX7) (T := TX7) (N := 9) hx hb hts (by decide +kernel) hown hK hP 0 rfl rfl 1 (by decide) (hts (.fieldLink RX7 19 "SummitTime" "told" "LSummitTime$Told;") (by decide +kernel)) (fun _ h9 => h9) rfl dX7_count_57 ?_
    refine va_getN (D := D) (ci := 6) (v := .int (nI td.2.2.2.2.2.1)) (C := RX6) (T := TX6) (N := 7) hx hb hts (by decide +kernel) hown hK hP 3 rfl rfl 5 (by decide) (va_Nw.use rfl hE.2.2.2.2.2.2.2.2.2.2.2.2.2.2.1) (fun _ h9 => h9) rfl dX7_count_60 ?_
    have hf : (f_X7_count tx td dy pn si wh) = nI td.2.2.2.2.2.1 := by rw [f_X7_count, if_pos c_1]
    exact W.iret (v := nI td.2.2.2.2.2.1) hx hb hr (fun t ht hW => ⟨nI td.2.2.2.2.2.1, rfl, hf.symm, ht⟩) (fun _ h => by cases h) dX7_count_63
  · by_cases c_2 : wh = nI 1
    · refine lv_tableIn (off := 63) (tgt := 64) hx hb dX7_count_1 (by rw [c_2]; decide) (by rw [c_2]; decide) (by rw [c_2]; decide) (by decide) ?_
      refine lv_aload_n hx hb dX7_count_64 rfl (lv_at hl 0 rfl) ?_
      refine va_get (D := D) (ci := 7) (v := .ref (ad 15)) (C := RX7) (T := TX7) (N := 9) hx hb hts (by decide +kernel) hown hK hP 0 rfl rfl 3 (by decide) (hts (.fieldLink RX7 29 "SummitTime" "day" "LSummitTime$Day;") (by decide +kernel)) (fun _ h9 => h9) rfl dX7_count_65 ?_
      refine va_getN (D := D) (ci := 0) (v := .int dy.2.2.2) (C := RX0) (T := TX0) (N := 4) hx hb hts (by decide +kernel) hown hK hP 15 rfl rfl 3 (by decide) (va_Nw.use rfl hE.2.2.2.2.2.2.2.2.2.2.2.2.1) (fun _ h9 => h9) rfl dX7_count_68 ?_
      have hf : (f_X7_count tx td dy pn si wh) = dy.2.2.2 := by rw [f_X7_count, if_neg c_1, if_pos c_2]
      exact W.iret (v := dy.2.2.2) hx hb hr (fun t ht hW => ⟨dy.2.2.2, rfl, hf.symm, ht⟩) (fun _ h => by cases h) dX7_count_71
    · by_cases c_3 : wh = nI 2
      · refine lv_tableIn (off := 71) (tgt := 72) hx hb dX7_count_1 (by rw [c_3]; decide) (by rw [c_3]; decide) (by rw [c_3]; decide) (by decide) ?_
        refine lv_aload_n hx hb dX7_count_72 rfl (lv_at hl 0 rfl) ?_
        refine va_get (D := D) (ci := 7) (v := .ref (ad 15)) (C := RX7) (T := TX7) (N := 9) hx hb hts (by decide +kernel) hown hK hP 0 rfl rfl 3 (by decide) (hts (.fieldLink RX7 29 "SummitTime" "day" "LSummitTime$Day;") (by decide +kernel)) (fun _ h9 => h9) rfl dX7_count_73 ?_
        refine vp_callSi (va_Run.run (va_runV (As := []) (rest := []) ⟨hx, hb, hml, hown, hts⟩ (c_X0_whoGo l D cI cL cZ ad A tx td dr dy lb pn ps ks si kb  ) (cwV 0 hts gX7_count_X0_whoGo rfl rfl rfl (by decide +kernel) ⟨Nat.le_of_ble_eq_true rfl, Nat.le_of_ble_eq_true rfl⟩) ⟨sR_fb, va_recv hK hP (ci := 0) (q0 := 15) rfl rfl, sR_at hP hK hD hE⟩ rfl rfl hl.1 rfl (lv_room (Nat.le_of_ble_eq_true rfl)) dX7_count_76 ⟨Nat.zero_le _, Nat.zero_le _⟩)) (fun r hr => ?_)
        subst hr
        have hf : (f_X7_count tx td dy pn si wh) = (f_X0_whoGo dy) := by rw [f_X7_count, if_neg c_1, if_neg c_2, if_pos c_3]
        exact W.iret (v := (f_X0_whoGo dy)) hx hb hr (fun t ht hW => ⟨(f_X0_whoGo dy), rfl, hf.symm, ht⟩) (fun _ h => by cases h) dX7_count_79
      · by_cases c_4 : wh = nI 3
        · refine lv_tableIn (off := 79) (tgt := 80) hx hb dX7_count_1 (by rw [c_4]; decide) (by rw [c_4]; decide) (by rw [c_4]; decide) (by decide) ?_
          refine lv_aload_n hx hb dX7_count_80 rfl (lv_at hl 0 rfl) ?_
          refine vp_callSi (va_Run.run (va_runV (As := []) (rest := []) ⟨hx, hb, hml, hown, hts⟩ (c_X7_finesOfAll l D cI cL cZ ad A tx td dr dy lb pn ps ks si kb  (by first | assumption | omega)) (cwV 0 hts gX7_count_X7_finesOfAll rfl rfl rfl (by decide +kernel) ⟨Nat.le_of_ble_eq_true rfl, Nat.le_of_ble_eq_true rfl⟩) ⟨sR_fb, va_recv hK hP (ci := 7) (q0 := 0) rfl rfl, sR_at hP hK hD hE⟩ rfl rfl hl.1 rfl (lv_room (Nat.le_of_ble_eq_true rfl)) dX7_count_81 ⟨Nat.zero_le _, Nat.zero_le _⟩)) (fun r hr => ?_)
          subst hr
          have hf : (f_X7_count tx td dy pn si wh) = (f_X7_finesOfAll td dy) := by rw [f_X7_count, if_neg c_1, if_neg c_2, if_neg c_3, if_pos c_4]
          exact W.iret (v := (f_X7_finesOfAll td dy)) hx hb hr (fun t ht hW => ⟨(f_X7_finesOfAll td dy), rfl, hf.symm, ht⟩) (fun _ h => by cases h) dX7_count_84
        · by_cases c_5 : wh = nI 4
          · refine lv_tableIn (off := 84) (tgt := 85) hx hb dX7_count_1 (by rw [c_5]; decide) (by rw [c_5]; decide) (by rw [c_5]; decide) (by decide) ?_
            refine lv_aload_n hx hb dX7_count_85 rfl (lv_at hl 0 rfl) ?_
            refine va_get (D := D) (ci := 7) (v := .ref (ad 15)) (C := RX7) (T := TX7) (N := 9) hx hb hts (by decide +kernel) hown hK hP 0 rfl rfl 3 (by decide) (hts (.fieldLink RX7 29 "SummitTime" "day" "LSummitTime$Day;") (by decide +kernel)) (fun _ h9 => h9) rfl dX7_count_86 ?_
            refine vp_callSl (va_Run.run (va_runV (As := []) (rest := []) ⟨hx, hb, hml, hown, hts⟩ (c_X0_landOfAll l D cI cL cZ ad A tx td dr dy lb pn ps ks si kb  ) (cwV 0 hts gX7_count_X0_landOfAll rfl rfl rfl (by decide +kernel) ⟨Nat.le_of_ble_eq_true rfl, Nat.le_of_ble_eq_true rfl⟩) ⟨sR_fb, va_recv hK hP (ci := 0) (q0 := 15) rfl rfl, sR_at hP hK hD hE⟩ rfl rfl hl.1 rfl (lv_room (Nat.le_of_ble_eq_true rfl)) dX7_count_89 ⟨Nat.zero_le _, Nat.zero_le _⟩)) (fun r hr => ?_)
            subst hr
            refine vp_callSi (va_Run.run (va_runS (As := [.long (f_X0_landOfAll dy)]) (rest := []) ⟨hx, hb, hml, hown, hts⟩ (c_J13_bitCount_95d88 l (f_X0_landOfAll dy) ) (va_cwS 1 hts gX7_count_J13_bitCount_95d88 rfl rfl rfl (by decide +kernel) ⟨Nat.le_of_ble_eq_true rfl, Nat.le_of_ble_eq_true rfl⟩) ⟨pR_fb, pR_at⟩ rfl rfl hl.1 rfl (lv_room (Nat.le_of_ble_eq_true rfl)) dX7_count_92 ⟨Nat.zero_le _, Nat.zero_le _⟩)) (fun r hr => ?_)
            subst hr
            have hf : (f_X7_count tx td dy pn si wh) = (f_J13_bitCount_95d88 (f_X0_landOfAll dy)) := by rw [f_X7_count, if_neg c_1, if_neg c_2, if_neg c_3, if_neg c_4, if_pos c_5]
            exact W.iret (v := (f_J13_bitCount_95d88 (f_X0_landOfAll dy))) hx hb hr (fun t ht hW => ⟨(f_J13_bitCount_95d88 (f_X0_landOfAll dy)), rfl, hf.symm, ht⟩) (fun _ h => by cases h) dX7_count_95
          · by_cases c_6 : wh = nI 5
            · refine lv_tableIn (off := 95) (tgt := 96) hx hb dX7_count_1 (by rw [c_6]; decide) (by rw [c_6]; decide) (by rw [c_6]; decide) (by decide) ?_
              refine lv_aload_n hx hb dX7_count_96 rfl (lv_at hl 0 rfl) ?_
              refine va_get (D := D) (ci := 7) (v := .ref (ad 3)) (C := RX7) (T := TX7) (N := 9) hx hb hts (by decide +kernel) hown hK hP 0 rfl rfl 1 (by decide) (hts (.fieldLink RX7 19 "SummitTime" "told" "LSummitTime$Told;") (by decide +kernel)) (fun _ h9 => h9) rfl dX7_count_97 ?_
              refine va_getN (D := D) (ci := 6) (v := .long td.2.2.2.2.2.2) (C := RX6) (T := TX6) (N := 7) hx hb hts (by decide +kernel) hown hK hP 3 rfl rfl 6 (by decide) (va_Nw.use rfl hE.2.2.2.2.2.2.2.2.2.2.2.2.2.1) (fun _ h9 => h9) rfl dX7_count_100 ?_
              refine vp_callSi (va_Run.run (va_runS (As := [.long td.2.2.2.2.2.2]) (rest := []) ⟨hx, hb, hml, hown, hts⟩ (c_J13_bitCount_95d88 l td.2.2.2.2.2.2 ) (va_cwS 1 hts gX7_count_J13_bitCount_95d88 rfl rfl rfl (by decide +kernel) ⟨Nat.le_of_ble_eq_true rfl, Nat.le_of_ble_eq_true rfl⟩) ⟨pR_fb, pR_at⟩ rfl rfl hl.1 rfl (lv_room (Nat.le_of_ble_eq_true rfl)) dX7_count_103 ⟨Nat.zero_le _, Nat.zero_le _⟩)) (fun r hr => ?_)
              subst hr
              have hf : (f_X7_count tx td dy pn si wh) = (f_J13_bitCount_95d88 td.2.2.2.2.2.2) := by rw [f_X7_count, if_neg c_1, if_neg c_2, if_neg c_3, if_neg c_4, if_neg c_5, if_pos c_6]
              exact W.iret (v := (f_J13_bitCount_95d88 td.2.2.2.2.2.2)) hx hb hr (fun t ht hW => ⟨(f_J13_bitCount_95d88 td.2.2.2.2.2.2), rfl, hf.symm, ht⟩) (fun _ h => by cases h) dX7_count_106
            · by_cases c_7 : wh = nI 6
              · refine lv_tableIn (off := 106) (tgt := 107) hx hb dX7_count_1 (by rw [c_7]; decide) (by rw [c_7]; decide) (by rw [c_7]; decide) (by decide) ?_
                refine lv_aload_n hx hb dX7_count_107 rfl (lv_at hl 0 rfl) ?_
                refine va_get (D := D) (ci := 7) (v := .ref (ad 15)) (C := RX7) (T := TX7) (N := 9) hx hb hts (by decide +kernel) hown hK hP 0 rfl rfl 3 (by decide) (hts (.fieldLink RX7 29 "SummitTime" "day" "LSummitTime$Day;") (by decide +kernel)) (fun _ h9 => h9) rfl dX7_count_108 ?_
                refine va_getN (D := D) (ci := 0) (v := .int dy.2.2.1) (C := RX0) (T := TX0) (N := 4) hx hb hts (by decide +kernel) hown hK hP 15 rfl rfl 2 (by decide) (va_Nw.use rfl hE.2.2.2.2.2.2.2.2.2.2.2.2.2.2.2.1) (fun _ h9 => h9) rfl dX7_count_111 ?_
                have hf : (f_X7_count tx td dy pn si wh) = dy.2.2.1 := by rw [f_X7_count, if_neg c_1, if_neg c_2, if_neg c_3, if_neg c_4, if_neg c_5, if_neg c_6, if_pos c_7]
                exact W.iret (v := dy.2.2.1) hx hb hr (fun t ht hW => ⟨dy.2.2.1, rfl, hf.symm, ht⟩) (fun _ h => by cases h) dX7_count_114
              · by_cases c_8 : wh = nI 7
                · refine lv_tableIn (off := 114) (tgt := 115) hx hb dX7_count_1 (by rw [c_8]; decide) (by rw [c_8]; decide) (by rw [c_8]; decide) (by decide) ?_
                  refine lv_aload_n hx hb dX7_count_115 rfl (lv_at hl 0 rfl) ?_
                  refine va_get (D := D) (ci := 7) (v := .ref (ad 31)) (C := RX7) (T := TX7) (N := 9) hx hb hts (by decide +kernel) hown hK hP 0 rfl rfl 7 (by decide) (hts (.fieldLink RX7 61 "SummitTime" "sightings" "LSummitTime$Sightings;") (by decide +kernel)) (fun _ h9 => h9) rfl dX7_count_116 ?_
                  refine vp_callSi (va_Run.run (va_runV (As := []) (rest := []) ⟨hx, hb, hml, hown, hts⟩ (c_X4_size l D cI cL cZ ad A tx td dr dy lb pn ps ks si kb  ) (cwV 0 hts gX7_count_X4_size rfl rfl rfl (by decide +kernel) ⟨Nat.le_of_ble_eq_true rfl, Nat.le_of_ble_eq_true rfl⟩) ⟨sR_fb, va_recv hK hP (ci := 4) (q0 := 31) rfl rfl, sR_at hP hK hD hE⟩ rfl rfl hl.1 rfl (lv_room (Nat.le_of_ble_eq_true rfl)) dX7_count_119 ⟨Nat.zero_le _, Nat.zero_le _⟩)) (fun r hr => ?_)
                  subst hr
                  have hf : (f_X7_count tx td dy pn si wh) = (f_X4_size si) := by rw [f_X7_count, if_neg c_1, if_neg c_2, if_neg c_3, if_neg c_4, if_neg c_5, if_neg c_6, if_neg c_7, if_pos c_8]
                  exact W.iret (v := (f_X4_size si)) hx hb hr (fun t ht hW => ⟨(f_X4_size si), rfl, hf.symm, ht⟩) (fun _ h => by cases h) dX7_count_122
                · by_cases c_9 : wh = nI 8
                  · refine lv_tableIn (off := 122) (tgt := 123) hx hb dX7_count_1 (by rw [c_9]; decide) (by rw [c_9]; decide) (by rw [c_9]; decide) (by decide) ?_
                    refine lv_aload_n hx hb dX7_count_123 rfl (lv_at hl 0 rfl) ?_
                    refine va_get (D := D) (ci := 7) (v := .ref (ad 20)) (C := RX7) (T := TX7) (N := 9) hx hb hts (by decide +kernel) hown hK hP 0 rfl rfl 5 (by decide) (hts (.fieldLink RX7 45 "SummitTime" "past" "LSummitTime$Past;") (by decide +kernel)) (fun _ h9 => h9) rfl dX7_count_124 ?_
                    refine vp_callSi (va_Run.run (va_runV (As := []) (rest := []) ⟨hx, hb, hml, hown, hts⟩ (c_X2_size l D cI cL cZ ad A tx td dr dy lb pn ps ks si kb  ) (cwV 0 hts gX7_count_X2_size rfl rfl rfl (by decide +kernel) ⟨Nat.le_of_ble_eq_true rfl, Nat.le_of_ble_eq_true rfl⟩) ⟨sR_fb, va_recv hK hP (ci := 2) (q0 := 20) rfl rfl, sR_at hP hK hD hE⟩ rfl rfl hl.1 rfl (lv_room (Nat.le_of_ble_eq_true rfl)) dX7_count_127 ⟨Nat.zero_le _, Nat.zero_le _⟩)) (fun r hr => ?_)
                    subst hr
                    have hf : (f_X7_count tx td dy pn si wh) = (f_X2_size pn) := by rw [f_X7_count, if_neg c_1, if_neg c_2, if_neg c_3, if_neg c_4, if_neg c_5, if_neg c_6, if_neg c_7, if_neg c_8, if_pos c_9]
                    exact W.iret (v := (f_X2_size pn)) hx hb hr (fun t ht hW => ⟨(f_X2_size pn), rfl, hf.symm, ht⟩) (fun _ h => by cases h) dX7_count_130
                  · by_cases c_10 : wh = nI 9
                    · refine lv_tableIn (off := 130) (tgt := 131) hx hb dX7_count_1 (by rw [c_10]; decide) (by rw [c_10]; decide) (by rw [c_10]; decide) (by decide) ?_
                      refine lv_aload_n hx hb dX7_count_131 rfl (lv_at hl 0 rfl) ?_
                      refine va_get (D := D) (ci := 7) (v := .ref (ad 1)) (C := RX7) (T := TX7) (N := 9) hx hb hts (by decide +kernel) hown hK hP 0 rfl rfl 0 (by decide) (hts (.fieldLink RX7 10 "SummitTime" "text" "LSummitTime$Text;") (by decide +kernel)) (fun _ h9 => h9) rfl dX7_count_132 ?_
                      refine vp_callSi (va_Run.run (va_runV (As := []) (rest := []) ⟨hx, hb, hml, hown, hts⟩ (c_X5_size l D cI cL cZ ad A tx td dr dy lb pn ps ks si kb  ) (cwV 0 hts gX7_count_X5_size rfl rfl rfl (by decide +kernel) ⟨Nat.le_of_ble_eq_true rfl, Nat.le_of_ble_eq_true rfl⟩) ⟨sR_fb, va_recv hK hP (ci := 5) (q0 := 1) rfl rfl, sR_at hP hK hD hE⟩ rfl rfl hl.1 rfl (lv_room (Nat.le_of_ble_eq_true rfl)) dX7_count_135 ⟨Nat.zero_le _, Nat.zero_le _⟩)) (fun r hr => ?_)
                      subst hr
                      have hf : (f_X7_count tx td dy pn si wh) = (f_X5_size tx) := by rw [f_X7_count, if_neg c_1, if_neg c_2, if_neg c_3, if_neg c_4, if_neg c_5, if_neg c_6, if_neg c_7, if_neg c_8, if_neg c_9, if_pos c_10]
                      exact W.iret (v := (f_X5_size tx)) hx hb hr (fun t ht hW => ⟨(f_X5_size tx), rfl, hf.symm, ht⟩) (fun _ h => by cases h) dX7_count_138
                    · have w_11 : wh.toInt < 0 ∨ 9 < wh.toInt := by
                        have := lv_neT c_1 (show (nI 0 : Int32).toInt = 0 by decide)
                        have := lv_neT c_2 (show (nI 1 : Int32).toInt = 1 by decide)
                        have := lv_neT c_3 (show (nI 2 : Int32).toInt = 2 by decide)
                        have := lv_neT c_4 (show (nI 3 : Int32).toInt = 3 by decide)
                        have := lv_neT c_5 (show (nI 4 : Int32).toInt = 4 by decide)
                        have := lv_neT c_6 (show (nI 5 : Int32).toInt = 5 by decide)
                        have := lv_neT c_7 (show (nI 6 : Int32).toInt = 6 by decide)
                        have := lv_neT c_8 (show (nI 7 : Int32).toInt = 7 by decide)
                        have := lv_neT c_9 (show (nI 8 : Int32).toInt = 8 by decide)
                        have := lv_neT c_10 (show (nI 9 : Int32).toInt = 9 by decide)
                        omega
                      refine lv_tableOut (tgt := 139) hx hb dX7_count_1 w_11 (by decide) ?_
                      refine lv_bipush (v := (-3)) hx hb dX7_count_139 rfl ?_
                      have hf : (f_X7_count tx td dy pn si wh) = (-3 : Int32) := by rw [f_X7_count, if_neg c_1, if_neg c_2, if_neg c_3, if_neg c_4, if_neg c_5, if_neg c_6, if_neg c_7, if_neg c_8, if_neg c_9, if_neg c_10]
                      exact W.iret (v := (-3 : Int32)) hx hb hr (fun t ht hW => ⟨(-3 : Int32), rfl, hf.symm, ht⟩) (fun _ h => by cases h) dX7_count_141
