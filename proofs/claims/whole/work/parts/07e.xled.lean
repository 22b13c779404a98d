def f_X1_withRope (dy : XDy) (pa : Int32) (wh : Int32) : Int32 := (if (f_X0_isRoped dy pa) = 0 then wh else (wh / (nI 2)))
abbrev rm_X1_withRope : Room := { frames := 1, cells := 0, slots := 0, locals := 21 }
set_option maxHeartbeats 4000000 in
set_option maxRecDepth 100000 in
theorem c_X1_withRope (l : Launch) (D : va_G) (cI cL cZ : ClassId) (ad : Nat → Nat) (A : Nat → Prop) (tx : XTx) (td : XTd) (dr : XTd) (dy : XDy) (lb : (Nat → Int32)) (pn : (Nat × Nat)) (ps : XSh) (ks : XSh) (si : XSi) (kb : Int32) (pa : Int32) (wh : Int32)  : Met l yX1_withRope wsX1_withRope rm_X1_withRope (va_Pc [.ref (ad 18), .int pa, .int wh] (sR D cI cL cZ A (xW cI cL cZ ad tx td dr dy lb pn ps ks si kb))) (vp_Si (fun r => r = (f_X1_withRope dy pa wh))) 0 0 (fun _ => False) := by
  refine Met.ofW (cc := cX1_withRope) (maxL := 3) (ret := (some .int)) (by decide) rfl ?_
  intro p e s m args below meth c s₁ B hml hv
  obtain ⟨rfl, hP, hK, hD, hE⟩ := hv
  have hx := B.exec
  have hb := B.bytes
  have hr := B.returns
  have hts := atoms_spec (ws := wsX1_withRope) B.pre
  have hown : s.vm.findClass RX1 = some m.cls := findClass_of_methodNamed B.named
  have hlocks := B.notSynchronized
  have hl := lv_entry ([.ref (ad 18), .int pa, .int wh]) (n := 3) (Nat.le_of_ble_eq_true rfl)
  rw [lg_entry_eq]
  generalize (lg_sl ([.ref (ad 18), .int pa, .int wh]) ++ List.replicate (3 - (lg_sl ([.ref (ad 18), .int pa, .int wh])).length) Slot.unset).toArray = ls at hl ⊢
  have hl : lv_has ls 3 [(0, .ref (ad 18)), (1, .int pa), (2, .int wh)] := hl
  refine lv_aload_n hx hb dX1_withRope_0 rfl (lv_at hl 0 rfl) ?_
  refine va_get (D := D) (ci := 1) (v := .ref (ad 15)) (C := RX1) (T := TX1) (N := 3) hx hb hts (by decide +kernel) hown hK hP 18 rfl rfl 1 (by decide) (hts (.fieldLink RX1 19 "SummitTime$Ledger" "day" "LSummitTime$Day;") (by decide +kernel)) (fun _ h9 => h9) rfl dX1_withRope_1 ?_
  refine lv_iload_n hx hb dX1_withRope_4 rfl (lv_at hl 1 rfl) ?_
  refine vp_callSi (va_Run.run (va_runV (As := [.int pa]) (rest := []) ⟨hx, hb, hml, hown, hts⟩ (c_X0_isRoped l D cI cL cZ ad A tx td dr dy lb pn ps ks si kb pa ) (cwV 1 hts gX1_withRope_X0_isRoped rfl rfl rfl (by decide +kernel) ⟨Nat.le_of_ble_eq_true rfl, Nat.le_of_ble_eq_true rfl⟩) ⟨sR_fb, va_recv hK hP (ci := 0) (q0 := 15) rfl rfl, sR_at hP hK hD hE⟩ rfl rfl hl.1 rfl (lv_room (Nat.le_of_ble_eq_true rfl)) dX1_withRope_5 ⟨Nat.zero_le _, Nat.zero_le _⟩)) (fun r hr => ?_)
  subst hr
  refine mv_phi (v := (if (f_X0_isRoped dy pa) = 0 then wh else (wh / (nI 2)))) (pcj := 18) (ls := ls) (rest' := []) ?_ (fun J_1 => ?_)
  · have hf : (f_X1_withRope dy pa wh) = (if (f_X0_isRoped dy pa) = 0 then wh else (wh / (nI 2))) := by rw [f_X1_withRope]
    exact W.iret (v := (if (f_X0_isRoped dy pa) = 0 then wh else (wh / (nI 2)))) hx hb hr (fun t ht hW => ⟨(if (f_X0_isRoped dy pa) = 0 then wh else (wh / (nI 2))), rfl, hf.symm, ht⟩) (fun _ h => by cases h) dX1_withRope_18
  · refine lv_if_eq (tgt := 17) hx hb dX1_withRope_8 (by decide) (fun c_2 => ?_) (fun c_2 => ?_)
    · refine lv_iload_n hx hb dX1_withRope_17 rfl (lv_at hl 2 rfl) ?_
      exact J_1 _ (by rw [if_pos c_2])
    · refine lv_iload_n hx hb dX1_withRope_11 rfl (lv_at hl 2 rfl) ?_
      refine lv_iconst (v := nI 2) hx hb dX1_withRope_12 rfl ?_
      refine lv_idiv hx hb dX1_withRope_13 (by decide) ?_
      refine lv_goto (tgt := 18) hx hb dX1_withRope_14 (by decide) ?_
      exact J_1 _ (by rw [if_neg c_2])
def f_X1_wholeFine (td : XTd) (dy : XDy) (pa : Int32) (clk : Int32) : Int32 := ((f_X1_costOf td dy pa (f_X1_stands td pa (f_X0_startOf dy pa) clk)) + (f_J13_bitCount_95d88 ((f_X1_stands td pa (f_X0_startOf dy pa) clk) &&& (f_X1_crowdAheadOf td dy pa clk))))
abbrev rm_X1_wholeFine : Room := { frames := 3, cells := 0, slots := 0, locals := 75 }
set_option maxHeartbeats 4000000 in
set_option maxRecDepth 100000 in
theorem c_X1_wholeFine (l : Launch) (D : va_G) (cI cL cZ : ClassId) (ad : Nat → Nat) (A : Nat → Prop) (tx : XTx) (td : XTd) (dr : XTd) (dy : XDy) (lb : (Nat → Int32)) (pn : (Nat × Nat)) (ps : XSh) (ks : XSh) (si : XSi) (kb : Int32) (pa : Int32) (clk : Int32) (hpe : td.2.2.2.2.2.1 ≤ 6) : Met l yX1_wholeFine wsX1_wholeFine rm_X1_wholeFine (va_Pc [.ref (ad 18), .int pa, .int clk] (sR D cI cL cZ A (xW cI cL cZ ad tx td dr dy lb pn ps ks si kb))) (vp_Si (fun r => r = (f_X1_wholeFine td dy pa clk))) 0 0 (fun _ => False) := by
  refine Met.ofW (cc := cX1_wholeFine) (maxL := 5) (ret := (some .int)) (by decide) rfl ?_
  intro p e s m args below meth c s₁ B hml hv
  obtain ⟨rfl, hP, hK, hD, hE⟩ := hv
  have hx := B.exec
  have hb := B.bytes
  have hr := B.returns
  have hts := atoms_spec (ws := wsX1_wholeFine) B.pre
  have hown : s.vm.findClass RX1 = some m.cls := findClass_of_methodNamed B.named
  have hlocks := B.notSynchronized
  have hl := lv_entry ([.ref (ad 18), .int pa, .int clk]) (n := 5) (Nat.le_of_ble_eq_true rfl)
  rw [lg_entry_eq]
  generalize (lg_sl ([.ref (ad 18), .int pa, .int clk]) ++ List.replicate (5 - (lg_sl ([.ref (ad 18), .int pa, .int clk])).length) Slot.unset).toArray = ls at hl ⊢
  have hl : lv_has ls 5 [(0, .ref (ad 18)), (1, .int pa), (2, .int clk)] := hl
  refine lv_aload_n hx hb dX1_wholeFine_0 rfl (lv_at hl 0 rfl) ?_
  refine lv_iload_n hx hb dX1_wholeFine_1 rfl (lv_at hl 1 rfl) ?_
  refine lv_aload_n hx hb dX1_wholeFine_2 rfl (lv_at hl 0 rfl) ?_
  refine va_get (D := D) (ci := 1) (v := .ref (ad 15)) (C := RX1) (T := TX1) (N := 3) hx hb hts (by decide +kernel) hown hK hP 18 rfl rfl 1 (by decide) (hts (.fieldLink RX1 19 "SummitTime$Ledger" "day" "LSummitTime$Day;") (by decide +kernel)) (fun _ h9 => h9) rfl dX1_wholeFine_3 ?_
  refine lv_iload_n hx hb dX1_wholeFine_6 rfl (lv_at hl 1 rfl) ?_
  refine vp_callSi (va_Run.run (va_runV (As := [.int pa]) (rest := [.int pa, .ref (ad 18)]) ⟨hx, hb, hml, hown, hts⟩ (c_X0_startOf l D cI cL cZ ad A tx td dr dy lb pn ps ks si kb pa ) (cwV 1 hts gX1_wholeFine_X0_startOf rfl rfl rfl (by decide +kernel) ⟨Nat.le_of_ble_eq_true rfl, Nat.le_of_ble_eq_true rfl⟩) ⟨sR_fb, va_recv hK hP (ci := 0) (q0 := 15) rfl rfl, sR_at hP hK hD hE⟩ rfl rfl hl.1 rfl (lv_room (Nat.le_of_ble_eq_true rfl)) dX1_wholeFine_7 ⟨Nat.zero_le _, Nat.zero_le _⟩)) (fun r hr => ?_)
  subst hr
  refine lv_iload_n hx hb dX1_wholeFine_10 rfl (lv_at hl 2 rfl) ?_
  refine vp_callSl (va_Run.run (va_runV (As := [.int pa, .int (f_X0_startOf dy pa), .int clk]) (rest := []) ⟨hx, hb, hml, hown, hts⟩ (c_X1_stands l D cI cL cZ ad A tx td dr dy lb pn ps ks si kb pa (f_X0_startOf dy pa) clk ) (cwV 3 hts gX1_wholeFine_X1_stands rfl rfl rfl (by decide +kernel) ⟨Nat.le_of_ble_eq_true rfl, Nat.le_of_ble_eq_true rfl⟩) ⟨sR_fb, va_recv hK hP (ci := 1) (q0 := 18) rfl rfl, sR_at hP hK hD hE⟩ rfl rfl hl.1 rfl (lv_room (Nat.le_of_ble_eq_true rfl)) dX1_wholeFine_11 ⟨Nat.zero_le _, Nat.zero_le _⟩)) (fun r hr => ?_)
  subst hr
  refine lv_lstore_n (lv' := [(3, .long (f_X1_stands td pa (f_X0_startOf dy pa) clk)), (0, .ref (ad 18)), (1, .int pa), (2, .int clk)]) hx hb dX1_wholeFine_14 rfl hl (by decide) rfl (fun ls hl => ?_)
  refine lv_aload_n hx hb dX1_wholeFine_15 rfl (lv_at hl 1 rfl) ?_
  refine lv_iload_n hx hb dX1_wholeFine_16 rfl (lv_at hl 2 rfl) ?_
  refine lv_lload_n hx hb dX1_wholeFine_17 rfl (lv_at hl 0 rfl) ?_
  refine vp_callSi (va_Run.run (va_runV (As := [.int pa, .long (f_X1_stands td pa (f_X0_startOf dy pa) clk)]) (rest := []) ⟨hx, hb, hml, hown, hts⟩ (c_X1_costOf l D cI cL cZ ad A tx td dr dy lb pn ps ks si kb pa (f_X1_stands td pa (f_X0_startOf dy pa) clk) (by first | assumption | omega)) (cwV 2 hts gX1_wholeFine_X1_costOf rfl rfl rfl (by decide +kernel) ⟨Nat.le_of_ble_eq_true rfl, Nat.le_of_ble_eq_true rfl⟩) ⟨sR_fb, va_recv hK hP (ci := 1) (q0 := 18) rfl rfl, sR_at hP hK hD hE⟩ rfl rfl hl.1 rfl (lv_room (Nat.le_of_ble_eq_true rfl)) dX1_wholeFine_18 ⟨Nat.zero_le _, Nat.zero_le _⟩)) (fun r hr => ?_)
  subst hr
  refine lv_lload_n hx hb dX1_wholeFine_21 rfl (lv_at hl 0 rfl) ?_
  refine lv_aload_n hx hb dX1_wholeFine_22 rfl (lv_at hl 1 rfl) ?_
  refine lv_iload_n hx hb dX1_wholeFine_23 rfl (lv_at hl 2 rfl) ?_
  refine lv_iload_n hx hb dX1_wholeFine_24 rfl (lv_at hl 3 rfl) ?_
  refine vp_callSl (va_Run.run (va_runV (As := [.int pa, .int clk]) (rest := [.long (f_X1_stands td pa (f_X0_startOf dy pa) clk), .int (f_X1_costOf td dy pa (f_X1_stands td pa (f_X0_startOf dy pa) clk))]) ⟨hx, hb, hml, hown, hts⟩ (c_X1_crowdAheadOf l D cI cL cZ ad A tx td dr dy lb pn ps ks si kb pa clk ) (cwV 2 hts gX1_wholeFine_X1_crowdAheadOf rfl rfl rfl (by decide +kernel) ⟨Nat.le_of_ble_eq_true rfl, Nat.le_of_ble_eq_true rfl⟩) ⟨sR_fb, va_recv hK hP (ci := 1) (q0 := 18) rfl rfl, sR_at hP hK hD hE⟩ rfl rfl hl.1 rfl (lv_room (Nat.le_of_ble_eq_true rfl)) dX1_wholeFine_25 ⟨Nat.zero_le _, Nat.zero_le _⟩)) (fun r hr => ?_)
  subst hr
  refine lv_land hx hb dX1_wholeFine_28 ?_
  refine vp_callSi (va_Run.run (va_runS (As := [.long ((f_X1_stands td pa (f_X0_startOf dy pa) clk) &&& (f_X1_crowdAheadOf td dy pa clk))]) (rest := [.int (f_X1_costOf td dy pa (f_X1_stands td pa (f_X0_startOf dy pa) clk))]) ⟨hx, hb, hml, hown, hts⟩ (c_J13_bitCount_95d88 l ((f_X1_stands td pa (f_X0_startOf dy pa) clk) &&& (f_X1_crowdAheadOf td dy pa clk)) ) (va_cwS 1 hts gX1_wholeFine_J13_bitCount_95d88 rfl rfl rfl (by decide +kernel) ⟨Nat.le_of_ble_eq_true rfl, Nat.le_of_ble_eq_true rfl⟩) ⟨pR_fb, pR_at⟩ rfl rfl hl.1 rfl (lv_room (Nat.le_of_ble_eq_true rfl)) dX1_wholeFine_29 ⟨Nat.zero_le _, Nat.zero_le _⟩)) (fun r hr => ?_)
  subst hr
  refine lv_iadd hx hb dX1_wholeFine_32 ?_
  have hf : (f_X1_wholeFine td dy pa clk) = ((f_X1_costOf td dy pa (f_X1_stands td pa (f_X0_startOf dy pa) clk)) + (f_J13_bitCount_95d88 ((f_X1_stands td pa (f_X0_startOf dy pa) clk) &&& (f_X1_crowdAheadOf td dy pa clk)))) := by rw [f_X1_wholeFine]
  exact W.iret (v := ((f_X1_costOf td dy pa (f_X1_stands td pa (f_X0_startOf dy pa) clk)) + (f_J13_bitCount_95d88 ((f_X1_stands td pa (f_X0_startOf dy pa) clk) &&& (f_X1_crowdAheadOf td dy pa clk))))) hx hb hr (fun t ht hW => ⟨((f_X1_costOf td dy pa (f_X1_stands td pa (f_X0_startOf dy pa) clk)) + (f_J13_bitCount_95d88 ((f_X1_stands td pa (f_X0_startOf dy pa) clk) &&& (f_X1_crowdAheadOf td dy pa clk)))), rfl, hf.symm, ht⟩) (fun _ h => by cases h) dX1_wholeFine_33
def f_X1_fine (td : XTd) (dy : XDy) (pa : Int32) (clk : Int32) : Int32 := (f_X1_withRope dy pa (f_X1_wholeFine td dy pa clk))
abbrev rm_X1_fine : Room := { frames := 4, cells := 0, slots := 0, locals := 99 }
set_option maxHeartbeats 4000000 in
set_option maxRecDepth 100000 in
theorem c_X1_fine (l : Launch) (D : va_G) (cI cL cZ : ClassId) (ad : Nat → Nat) (A : Nat → Prop) (tx : XTx) (td : XTd) (dr : XTd) (dy : XDy) (lb : (Nat → Int32)) (pn : (Nat × Nat)) (ps : XSh) (ks : XSh) (si : XSi) (kb : Int32) (pa : Int32) (clk : Int32) (hpe : td.2.2.2.2.2.1 ≤ 6) : Met l yX1_fine wsX1_fine rm_X1_fine (va_Pc [.ref (ad 18), .int pa, .int clk] (sR D cI cL cZ A (xW cI cL cZ ad tx td dr dy lb pn ps ks si kb))) (vp_Si (fun r => r = (f_X1_fine td dy pa clk))) 0 0 (fun _ => False) := by
  refine Met.ofW (cc := cX1_fine) (maxL := 3) (ret := (some .int)) (by decide) rfl ?_
  intro p e s m args below meth c s₁ B hml hv
  obtain ⟨rfl, hP, hK, hD, hE⟩ := hv
  have hx := B.exec
  have hb := B.bytes
  have hr := B.returns
  have hts := atoms_spec (ws := wsX1_fine) B.pre
  have hown : s.vm.findClass RX1 = some m.cls := findClass_of_methodNamed B.named
  have hlocks := B.notSynchronized
  have hl := lv_entry ([.ref (ad 18), .int pa, .int clk]) (n := 3) (Nat.le_of_ble_eq_true rfl)
  rw [lg_entry_eq]
  generalize (lg_sl ([.ref (ad 18), .int pa, .int clk]) ++ List.replicate (3 - (lg_sl ([.ref (ad 18), .int pa, .int clk])).length) Slot.unset).toArray = ls at hl ⊢
  have hl : lv_has ls 3 [(0, .ref (ad 18)), (1, .int pa), (2, .int clk)] := hl
  refine lv_aload_n hx hb dX1_fine_0 rfl (lv_at hl 0 rfl) ?_
  refine lv_iload_n hx hb dX1_fine_1 rfl (lv_at hl 1 rfl) ?_
  refine lv_aload_n hx hb dX1_fine_2 rfl (lv_at hl 0 rfl) ?_
  refine lv_iload_n hx hb dX1_fine_3 rfl (lv_at hl 1 rfl) ?_
  refine lv_iload_n hx hb dX1_fine_4 rfl (lv_at hl 2 rfl) ?_
  refine vp_callSi (va_Run.run (va_runV (As := [.int pa, .int clk]) (rest := [.int pa, .ref (ad 18)]) ⟨hx, hb, hml, hown, hts⟩ (c_X1_wholeFine l D cI cL cZ ad A tx td dr dy lb pn ps ks si kb pa clk (by first | assumption | omega)) (cwV 2 hts gX1_fine_X1_wholeFine rfl rfl rfl (by decide +kernel) ⟨Nat.le_of_ble_eq_true rfl, Nat.le_of_ble_eq_true rfl⟩) ⟨sR_fb, va_recv hK hP (ci := 1) (q0 := 18) rfl rfl, sR_at hP hK hD hE⟩ rfl rfl hl.1 rfl (lv_room (Nat.le_of_ble_eq_true rfl)) dX1_fine_5 ⟨Nat.zero_le _, Nat.zero_le _⟩)) (fun r hr => ?_)
  subst hr
  refine vp_callSi (va_Run.run (va_runV (As := [.int pa, .int (f_X1_wholeFine td dy pa clk)]) (rest := []) ⟨hx, hb, hml, hown, hts⟩ (c_X1_withRope l D cI cL cZ ad A tx td dr dy lb pn ps ks si kb pa (f_X1_wholeFine td dy pa clk) ) (cwV 2 hts gX1_fine_X1_withRope rfl rfl rfl (by decide +kernel) ⟨Nat.le_of_ble_eq_true rfl, Nat.le_of_ble_eq_true rfl⟩) ⟨sR_fb, va_recv hK hP (ci := 1) (q0 := 18) rfl rfl, sR_at hP hK hD hE⟩ rfl rfl hl.1 rfl (lv_room (Nat.le_of_ble_eq_true rfl)) dX1_fine_8 ⟨Nat.zero_le _, Nat.zero_le _⟩)) (fun r hr => ?_)
  subst hr
  have hf : (f_X1_fine td dy pa clk) = (f_X1_withRope dy pa (f_X1_wholeFine td dy pa clk)) := by rw [f_X1_fine]
  exact W.iret (v := (f_X1_withRope dy pa (f_X1_wholeFine td dy pa clk))) hx hb hr (fun t ht hW => ⟨(f_X1_withRope dy pa (f_X1_wholeFine td dy pa clk)), rfl, hf.symm, ht⟩) (fun _ h => by cases h) dX1_fine_11
def f_X1_fineFrom (td : XTd) (dy : XDy) (pa : Int32) (sta : Int32) : Int32 := (f_X1_withRope dy pa ((f_X1_costOf td dy pa (f_X1_stands td pa sta dy.2.2.2)) + (f_J13_bitCount_95d88 ((f_X1_stands td pa sta dy.2.2.2) &&& (f_X1_crowdAheadOf td dy pa dy.2.2.2)))))
abbrev rm_X1_fineFrom : Room := { frames := 3, cells := 0, slots := 0, locals := 75 }
set_option maxHeartbeats 4000000 in
set_option maxRecDepth 100000 in
theorem c_X1_fineFrom (l : Launch) (D : va_G) (cI cL cZ : ClassId) (ad : Nat → Nat) (A : Nat → Prop) (tx : XTx) (td : XTd) (dr : XTd) (dy : XDy) (lb : (Nat → Int32)) (pn : (Nat × Nat)) (ps : XSh) (ks : XSh) (si : XSi) (kb : Int32) (pa : Int32) (sta : Int32) (hpe : td.2.2.2.2.2.1 ≤ 6) : Met l yX1_fineFrom wsX1_fineFrom rm_X1_fineFrom (va_Pc [.ref (ad 18), .int pa, .int sta] (sR D cI cL cZ A (xW cI cL cZ ad tx td dr dy lb pn ps ks si kb))) (vp_Si (fun r => r = (f_X1_fineFrom td dy pa sta))) 0 0 (fun _ => False) := by
  refine Met.ofW (cc := cX1_fineFrom) (maxL := 7) (ret := (some .int)) (by decide) rfl ?_
  intro p e s m args below meth c s₁ B hml hv
  obtain ⟨rfl, hP, hK, hD, hE⟩ := hv
  have hx := B.exec
  have hb := B.bytes
  have hr := B.returns
  have hts := atoms_spec (ws := wsX1_fineFrom) B.pre
  have hown : s.vm.findClass RX1 = some m.cls := findClass_of_methodNamed B.named
  have hlocks := B.notSynchronized
  have hl := lv_entry ([.ref (ad 18), .int pa, .int sta]) (n := 7) (Nat.le_of_ble_eq_true rfl)
  rw [lg_entry_eq]
  generalize (lg_sl ([.ref (ad 18), .int pa, .int sta]) ++ List.replicate (7 - (lg_sl ([.ref (ad 18), .int pa, .int sta])).length) Slot.unset).toArray = ls at hl ⊢
  have hl : lv_has ls 7 [(0, .ref (ad 18)), (1, .int pa), (2, .int sta)] := hl
  refine lv_aload_n hx hb dX1_fineFrom_0 rfl (lv_at hl 0 rfl) ?_
  refine lv_iload_n hx hb dX1_fineFrom_1 rfl (lv_at hl 1 rfl) ?_
  refine lv_iload_n hx hb dX1_fineFrom_2 rfl (lv_at hl 2 rfl) ?_
  refine lv_aload_n hx hb dX1_fineFrom_3 rfl (lv_at hl 0 rfl) ?_
  refine va_get (D := D) (ci := 1) (v := .ref (ad 15)) (C := RX1) (T := TX1) (N := 3) hx hb hts (by decide +kernel) hown hK hP 18 rfl rfl 1 (by decide) (hts (.fieldLink RX1 19 "SummitTime$Ledger" "day" "LSummitTime$Day;") (by decide +kernel)) (fun _ h9 => h9) rfl dX1_fineFrom_4 ?_
  refine va_getN (D := D) (ci := 0) (v := .int dy.2.2.2) (C := RX0) (T := TX0) (N := 4) hx hb hts (by decide +kernel) hown hK hP 15 rfl rfl 3 (by decide) (va_Nw.use rfl hE.2.2.2.1) (fun _ h9 => h9) rfl dX1_fineFrom_7 ?_
  refine vp_callSl (va_Run.run (va_runV (As := [.int pa, .int sta, .int dy.2.2.2]) (rest := []) ⟨hx, hb, hml, hown, hts⟩ (c_X1_stands l D cI cL cZ ad A tx td dr dy lb pn ps ks si kb pa sta dy.2.2.2 ) (cwV 3 hts gX1_fineFrom_X1_stands rfl rfl rfl (by decide +kernel) ⟨Nat.le_of_ble_eq_true rfl, Nat.le_of_ble_eq_true rfl⟩) ⟨sR_fb, va_recv hK hP (ci := 1) (q0 := 18) rfl rfl, sR_at hP hK hD hE⟩ rfl rfl hl.1 rfl (lv_room (Nat.le_of_ble_eq_true rfl)) dX1_fineFrom_10 ⟨Nat.zero_le _, Nat.zero_le _⟩)) (fun r hr => ?_)
  subst hr
  refine lv_lstore_n (lv' := [(3, .long (f_X1_stands td pa sta dy.2.2.2)), (0, .ref (ad 18)), (1, .int pa), (2, .int sta)]) hx hb dX1_fineFrom_13 rfl hl (by decide) rfl (fun ls hl => ?_)
  refine lv_lload_n hx hb dX1_fineFrom_14 rfl (lv_at hl 0 rfl) ?_
  refine lv_aload_n hx hb dX1_fineFrom_15 rfl (lv_at hl 1 rfl) ?_
  refine lv_iload_n hx hb dX1_fineFrom_16 rfl (lv_at hl 2 rfl) ?_
  refine lv_aload_n hx hb dX1_fineFrom_17 rfl (lv_at hl 1 rfl) ?_
  refine va_get (D := D) (ci := 1) (v := .ref (ad 15)) (C := RX1) (T := TX1) (N := 3) hx hb hts (by decide +kernel) hown hK hP 18 rfl rfl 1 (by decide) (hts (.fieldLink RX1 19 "SummitTime$Ledger" "day" "LSummitTime$Day;") (by decide +kernel)) (fun _ h9 => h9) rfl dX1_fineFrom_18 ?_
  refine va_getN (D := D) (ci := 0) (v := .int dy.2.2.2) (C := RX0) (T := TX0) (N := 4) hx hb hts (by decide +kernel) hown hK hP 15 rfl rfl 3 (by decide) (va_Nw.use rfl hE.2.2.2.1) (fun _ h9 => h9) rfl dX1_fineFrom_21 ?_
  refine vp_callSl (va_Run.run (va_runV (As := [.int pa, .int dy.2.2.2]) (rest := [.long (f_X1_stands td pa sta dy.2.2.2)]) ⟨hx, hb, hml, hown, hts⟩ (c_X1_crowdAheadOf l D cI cL cZ ad A tx td dr dy lb pn ps ks si kb pa dy.2.2.2 ) (cwV 2 hts gX1_fineFrom_X1_crowdAheadOf rfl rfl rfl (by decide +kernel) ⟨Nat.le_of_ble_eq_true rfl, Nat.le_of_ble_eq_true rfl⟩) ⟨sR_fb, va_recv hK hP (ci := 1) (q0 := 18) rfl rfl, sR_at hP hK hD hE⟩ rfl rfl hl.1 rfl (lv_room (Nat.le_of_ble_eq_true rfl)) dX1_fineFrom_24 ⟨Nat.zero_le _, Nat.zero_le _⟩)) (fun r hr => ?_)
  subst hr
  refine lv_land hx hb dX1_fineFrom_27 ?_
  refine lv_lstore (lv' := [(5, .long ((f_X1_stands td pa sta dy.2.2.2) &&& (f_X1_crowdAheadOf td dy pa dy.2.2.2))), (3, .long (f_X1_stands td pa sta dy.2.2.2)), (0, .ref (ad 18)), (1, .int pa), (2, .int sta)]) hx hb dX1_fineFrom_28 hl (by decide) rfl (fun ls hl => ?_)
  refine lv_aload_n hx hb dX1_fineFrom_30 rfl (lv_at hl 2 rfl) ?_
  refine lv_iload_n hx hb dX1_fineFrom_31 rfl (lv_at hl 3 rfl) ?_
  refine lv_aload_n hx hb dX1_fineFrom_32 rfl (lv_at hl 2 rfl) ?_
  refine lv_iload_n hx hb dX1_fineFrom_33 rfl (lv_at hl 3 rfl) ?_
  refine lv_lload_n hx hb dX1_fineFrom_34 rfl (lv_at hl 1 rfl) ?_
  refine vp_callSi (va_Run.run (va_runV (As := [.int pa, .long (f_X1_stands td pa sta dy.2.2.2)]) (rest := [.int pa, .ref (ad 18)]) ⟨hx, hb, hml, hown, hts⟩ (c_X1_costOf l D cI cL cZ ad A tx td dr dy lb pn ps ks si kb pa (f_X1_stands td pa sta dy.2.2.2) (by first | assumption | omega)) (cwV 2 hts gX1_fineFrom_X1_costOf rfl rfl rfl (by decide +kernel) ⟨Nat.le_of_ble_eq_true rfl, Nat.le_of_ble_eq_true rfl⟩) ⟨sR_fb, va_recv hK hP (ci := 1) (q0 := 18) rfl rfl, sR_at hP hK hD hE⟩ rfl rfl hl.1 rfl (lv_room (Nat.le_of_ble_eq_true rfl)) dX1_fineFrom_35 ⟨Nat.zero_le _, Nat.zero_le _⟩)) (fun r hr => ?_)
  subst hr
  refine lv_lload hx hb dX1_fineFrom_38 (lv_at hl 0 rfl) ?_
  refine vp_callSi (va_Run.run (va_runS (As := [.long ((f_X1_stands td pa sta dy.2.2.2) &&& (f_X1_crowdAheadOf td dy pa dy.2.2.2))]) (rest := [.int (f_X1_costOf td dy pa (f_X1_stands td pa sta dy.2.2.2)), .int pa, .ref (ad 18)]) ⟨hx, hb, hml, hown, hts⟩ (c_J13_bitCount_95d88 l ((f_X1_stands td pa sta dy.2.2.2) &&& (f_X1_crowdAheadOf td dy pa dy.2.2.2)) ) (va_cwS 1 hts gX1_fineFrom_J13_bitCount_95d88 rfl rfl rfl (by decide +kernel) ⟨Nat.le_of_ble_eq_true rfl, Nat.le_of_ble_eq_true rfl⟩) ⟨pR_fb, pR_at⟩ rfl rfl hl.1 rfl (lv_room (Nat.le_of_ble_eq_true rfl)) dX1_fineFrom_40 ⟨Nat.zero_le _, Nat.zero_le _⟩)) (fun r hr => ?_)
  subst hr
  refine lv_iadd hx hb dX1_fineFrom_43 ?_
  refine vp_callSi (va_Run.run (va_runV (As := [.int pa, .int ((f_X1_costOf td dy pa (f_X1_stands td pa sta dy.2.2.2)) + (f_J13_bitCount_95d88 ((f_X1_stands td pa sta dy.2.2.2) &&& (f_X1_crowdAheadOf td dy pa dy.2.2.2))))]) (rest := []) ⟨hx, hb, hml, hown, hts⟩ (c_X1_withRope l D cI cL cZ ad A tx td dr dy lb pn ps ks si kb pa ((f_X1_costOf td dy pa (f_X1_stands td pa sta dy.2.2.2)) + (f_J13_bitCount_95d88 ((f_X1_stands td pa sta dy.2.2.2) &&& (f_X1_crowdAheadOf td dy pa dy.2.2.2)))) ) (cwV 2 hts gX1_fineFrom_X1_withRope rfl rfl rfl (by decide +kernel) ⟨Nat.le_of_ble_eq_true rfl, Nat.le_of_ble_eq_true rfl⟩) ⟨sR_fb, va_recv hK hP (ci := 1) (q0 := 18) rfl rfl, sR_at hP hK hD hE⟩ rfl rfl hl.1 rfl (lv_room (Nat.le_of_ble_eq_true rfl)) dX1_fineFrom_44 ⟨Nat.zero_le _, Nat.zero_le _⟩)) (fun r hr => ?_)
  subst hr
  have hf : (f_X1_fineFrom td dy pa sta) = (f_X1_withRope dy pa ((f_X1_costOf td dy pa (f_X1_stands td pa sta dy.2.2.2)) + (f_J13_bitCount_95d88 ((f_X1_stands td pa sta dy.2.2.2) &&& (f_X1_crowdAheadOf td dy pa dy.2.2.2))))) := by rw [f_X1_fineFrom]
  exact W.iret (v := (f_X1_withRope dy pa ((f_X1_costOf td dy pa (f_X1_stands td pa sta dy.2.2.2)) + (f_J13_bitCount_95d88 ((f_X1_stands td pa sta dy.2.2.2) &&& (f_X1_crowdAheadOf td dy pa dy.2.2.2)))))) hx hb hr (fun t ht hW => ⟨(f_X1_withRope dy pa ((f_X1_costOf td dy pa (f_X1_stands td pa sta dy.2.2.2)) + (f_J13_bitCount_95d88 ((f_X1_stands td pa sta dy.2.2.2) &&& (f_X1_crowdAheadOf td dy pa dy.2.2.2))))), rfl, hf.symm, ht⟩) (fun _ h => by cases h) dX1_fineFrom_47
def L_X1_bestStart_36 (td : XTd) (dy : XDy) (pa : Int32) : Nat → Nat → Int32 → Int32 → Int32 × Int32
  | 0, k_36, x3_36, x2_36 => (if nI 59 < ((nI k_36) + ((((f_X6_walkOf td pa) + dy.2.2.2) + (f_X6_stayOf td pa)) - (nI 1))) then (x3_36, x2_36) else (x3_36, x2_36))
  | n_36 + 1, k_36, x3_36, x2_36 => (if nI 59 < ((nI k_36) + ((((f_X6_walkOf td pa) + dy.2.2.2) + (f_X6_stayOf td pa)) - (nI 1))) then (x3_36, x2_36) else (if x2_36 = (-1 : Int32) then (L_X1_bestStart_36 td dy pa n_36 (k_36 + 1) (f_X1_fineFrom td dy pa (nI k_36)) (nI k_36)) else (if x3_36 ≤ (f_X1_fineFrom td dy pa (nI k_36)) then (L_X1_bestStart_36 td dy pa n_36 (k_36 + 1) x3_36 x2_36) else (L_X1_bestStart_36 td dy pa n_36 (k_36 + 1) (f_X1_fineFrom td dy pa (nI k_36)) (nI k_36)))))
def f_X1_bestStart (td : XTd) (dy : XDy) (pa : Int32) : Int32 := (L_X1_bestStart_36 td dy pa 60 0 (nI 0) (-1 : Int32)).2
abbrev rm_X1_bestStart : Room := { frames := 4, cells := 0, slots := 0, locals := 101 }
set_option maxHeartbeats 4000000 in
set_option maxRecDepth 100000 in
theorem c_X1_bestStart (l : Launch) (D : va_G) (cI cL cZ : ClassId) (ad : Nat → Nat) (A : Nat → Prop) (tx : XTx) (td : XTd) (dr : XTd) (dy : XDy) (lb : (Nat → Int32)) (pn : (Nat × Nat)) (ps : XSh) (ks : XSh) (si : XSi) (kb : Int32) (pa : Int32) (hpe : td.2.2.2.2.2.1 ≤ 6) : Met l yX1_bestStart wsX1_bestStart rm_X1_bestStart (va_Pc [.ref (ad 18), .int pa] (sR D cI cL cZ A (xW cI cL cZ ad tx td dr dy lb pn ps ks si kb))) (vp_Si (fun r => r = (f_X1_bestStart td dy pa))) 0 0 (fun _ => False) := by
  refine Met.ofW (cc := cX1_bestStart) (maxL := 7) (ret := (some .int)) (by decide) rfl ?_
  intro p e s m args below meth c s₁ B hml hv
  obtain ⟨rfl, hP, hK, hD, hE⟩ := hv
  have hx := B.exec
  have hb := B.bytes
  have hr := B.returns
  have hts := atoms_spec (ws := wsX1_bestStart) B.pre
  have hown : s.vm.findClass RX1 = some m.cls := findClass_of_methodNamed B.named
  have hlocks := B.notSynchronized
  have hl := lv_entry ([.ref (ad 18), .int pa]) (n := 7) (Nat.le_of_ble_eq_true rfl)
  rw [lg_entry_eq]
  generalize (lg_sl ([.ref (ad 18), .int pa]) ++ List.replicate (7 - (lg_sl ([.ref (ad 18), .int pa])).length) Slot.unset).toArray = ls at hl ⊢
  have hl : lv_has ls 7 [(0, .ref (ad 18)), (1, .int pa)] := hl
  obtain ⟨Q, hQe⟩ : ∃ Q, Q = MQ below (vp_Si (fun r => r = (f_X1_bestStart td dy pa))) ([.ref (ad 18), .int pa] : List Value).toArray s 0 0 (fun _ => False) := ⟨_, rfl⟩
  show W p l e (headSpec wsX1_bestStart rm_X1_bestStart).room s m ([.ref (ad 18), .int pa] : List Value).toArray below meth c s.heap [] 0 0 (MQ below (vp_Si (fun r => r = (f_X1_bestStart td dy pa))) ([.ref (ad 18), .int pa] : List Value).toArray s 0 0 (fun _ => False)) (F0 m 0 ls [])
  rw [← hQe]
  refine lv_iconst (v := (-1)) hx hb dX1_bestStart_0 rfl ?_
  refine lv_istore_n (lv' := [(2, .int (-1 : Int32)), (0, .ref (ad 18)), (1, .int pa)]) hx hb dX1_bestStart_1 rfl hl (by decide) rfl (fun ls hl => ?_)
  refine lv_iconst (v := nI 0) hx hb dX1_bestStart_2 rfl ?_
  refine lv_istore_n (lv' := [(3, .int (nI 0)), (2, .int (-1 : Int32)), (0, .ref (ad 18)), (1, .int pa)]) hx hb dX1_bestStart_3 rfl hl (by decide) rfl (fun ls hl => ?_)
  refine lv_aload_n hx hb dX1_bestStart_4 rfl (lv_at hl 2 rfl) ?_
  refine va_get (D := D) (ci := 1) (v := .ref (ad 3)) (C := RX1) (T := TX1) (N := 3) hx hb hts (by decide +kernel) hown hK hP 18 rfl rfl 0 (by decide) (hts (.fieldLink RX1 15 "SummitTime$Ledger" "told" "LSummitTime$Told;") (by decide +kernel)) (fun _ h9 => h9) rfl dX1_bestStart_5 ?_
  refine lv_iload_n hx hb dX1_bestStart_8 rfl (lv_at hl 3 rfl) ?_
  refine vp_callSi (va_Run.run (va_runV (As := [.int pa]) (rest := []) ⟨hx, hb, hml, hown, hts⟩ (c_X6_walkOf l D cI cL cZ ad A tx td dr dy lb pn ps ks si kb pa ) (cwV 1 hts gX1_bestStart_X6_walkOf rfl rfl rfl (by decide +kernel) ⟨Nat.le_of_ble_eq_true rfl, Nat.le_of_ble_eq_true rfl⟩) ⟨sR_fb, va_recv hK hP (ci := 6) (q0 := 3) rfl rfl, sR_at hP hK hD hE⟩ rfl rfl hl.1 rfl (lv_room (Nat.le_of_ble_eq_true rfl)) dX1_bestStart_9 ⟨Nat.zero_le _, Nat.zero_le _⟩)) (fun r hr => ?_)
  subst hr
  refine lv_aload_n hx hb dX1_bestStart_12 rfl (lv_at hl 2 rfl) ?_
  refine va_get (D := D) (ci := 1) (v := .ref (ad 15)) (C := RX1) (T := TX1) (N := 3) hx hb hts (by decide +kernel) hown hK hP 18 rfl rfl 1 (by decide) (hts (.fieldLink RX1 19 "SummitTime$Ledger" "day" "LSummitTime$Day;") (by decide +kernel)) (fun _ h9 => h9) rfl dX1_bestStart_13 ?_
  refine va_getN (D := D) (ci := 0) (v := .int dy.2.2.2) (C := RX0) (T := TX0) (N := 4) hx hb hts (by decide +kernel) hown hK hP 15 rfl rfl 3 (by decide) (va_Nw.use rfl hE.2.2.2.1) (fun _ h9 => h9) rfl dX1_bestStart_16 ?_
  refine lv_iadd hx hb dX1_bestStart_19 ?_
  refine lv_aload_n hx hb dX1_bestStart_20 rfl (lv_at hl 2 rfl) ?_
  refine va_get (D := D) (ci := 1) (v := .ref (ad 3)) (C := RX1) (T := TX1) (N := 3) hx hb hts (by decide +kernel) hown hK hP 18 rfl rfl 0 (by decide) (hts (.fieldLink RX1 15 "SummitTime$Ledger" "told" "LSummitTime$Told;") (by decide +kernel)) (fun _ h9 => h9) rfl dX1_bestStart_21 ?_
  refine lv_iload_n hx hb dX1_bestStart_24 rfl (lv_at hl 3 rfl) ?_
  refine vp_callSi (va_Run.run (va_runV (As := [.int pa]) (rest := [.int ((f_X6_walkOf td pa) + dy.2.2.2)]) ⟨hx, hb, hml, hown, hts⟩ (c_X6_stayOf l D cI cL cZ ad A tx td dr dy lb pn ps ks si kb pa ) (cwV 1 hts gX1_bestStart_X6_stayOf rfl rfl rfl (by decide +kernel) ⟨Nat.le_of_ble_eq_true rfl, Nat.le_of_ble_eq_true rfl⟩) ⟨sR_fb, va_recv hK hP (ci := 6) (q0 := 3) rfl rfl, sR_at hP hK hD hE⟩ rfl rfl hl.1 rfl (lv_room (Nat.le_of_ble_eq_true rfl)) dX1_bestStart_25 ⟨Nat.zero_le _, Nat.zero_le _⟩)) (fun r hr => ?_)
  subst hr
  refine lv_iadd hx hb dX1_bestStart_28 ?_
  refine lv_iconst (v := nI 1) hx hb dX1_bestStart_29 rfl ?_
  refine lv_isub hx hb dX1_bestStart_30 ?_
  refine lv_istore (lv' := [(4, .int ((((f_X6_walkOf td pa) + dy.2.2.2) + (f_X6_stayOf td pa)) - (nI 1))), (3, .int (nI 0)), (2, .int (-1 : Int32)), (0, .ref (ad 18)), (1, .int pa)]) hx hb dX1_bestStart_31 hl (by decide) rfl (fun ls hl => ?_)
  refine lv_iconst (v := nI 0) hx hb dX1_bestStart_33 rfl ?_
  refine lv_istore (lv' := [(5, .int (nI 0)), (4, .int ((((f_X6_walkOf td pa) + dy.2.2.2) + (f_X6_stayOf td pa)) - (nI 1))), (3, .int (nI 0)), (2, .int (-1 : Int32)), (0, .ref (ad 18)), (1, .int pa)]) hx hb dX1_bestStart_34 hl (by decide) rfl (fun ls hl => ?_)
  obtain ⟨T_36_1, hT_36_1⟩ : ∃ z, z = (L_X1_bestStart_36 td dy pa 60 0 (nI 0) (-1 : Int32)) := ⟨_, rfl⟩
  have hexit_36 : ∀ (ls : Array Slot), lv_has ls 7 [(4, .int ((((f_X6_walkOf td pa) + dy.2.2.2) + (f_X6_stayOf td pa)) - (nI 1))), (3, .int T_36_1.1), (2, .int T_36_1.2), (0, .ref (ad 18)), (1, .int pa)] → W p l e (headSpec wsX1_bestStart rm_X1_bestStart).room s m ([.ref (ad 18), .int pa] : List Value).toArray below meth c s.heap [] 0 0 Q (F0 m 85 ls []) := by
    intro ls hl
    refine lv_iload_n hx hb dX1_bestStart_85 rfl (lv_at hl 2 rfl) ?_
    subst hQe
    have hf : (f_X1_bestStart td dy pa) = T_36_1.2 := by rw [f_X1_bestStart]; (try rw [← hT_36_1]); first | done | rfl
    exact W.iret (v := T_36_1.2) hx hb hr (fun t ht hW => ⟨T_36_1.2, rfl, hf.symm, ht⟩) (fun _ h => by cases h) dX1_bestStart_86
  have loop_36 : ∀ (n_36 : Nat) (k_36 : Nat) (x3_36 : Int32) (x2_36 : Int32), (k_36 + n_36 = 60) → L_X1_bestStart_36 td dy pa n_36 k_36 x3_36 x2_36 = T_36_1 → ∀ (ls : Array Slot), lv_has ls 7 [(5, .int (nI k_36)), (4, .int ((((f_X6_walkOf td pa) + dy.2.2.2) + (f_X6_stayOf td pa)) - (nI 1))), (3, .int x3_36), (2, .int x2_36), (0, .ref (ad 18)), (1, .int pa)] → W p l e (headSpec wsX1_bestStart rm_X1_bestStart).room s m ([.ref (ad 18), .int pa] : List Value).toArray below meth c s.heap [] 0 0 Q (F0 m 36 ls []) := by
    intro n_36
    induction n_36 with
    | zero =>
      intro k_36 x3_36 x2_36 hk_36 hL_36 ls hl
      refine lv_iload hx hb dX1_bestStart_36 (lv_at hl 0 rfl) ?_
      refine lv_iload hx hb dX1_bestStart_38 (lv_at hl 1 rfl) ?_
      refine lv_iadd hx hb dX1_bestStart_40 ?_
      refine lv_bipush (v := nI 59) hx hb dX1_bestStart_41 rfl ?_
      refine lv_icmp_gt (tgt := 85) hx hb dX1_bestStart_43 (by decide) (fun c_5 => ?_) (fun c_5 => ?_)
      · have e9 : T_36_1 = (x3_36, x2_36) := by rw [← hL_36, L_X1_bestStart_36, if_pos c_5]
        have hq := hexit_36
        rw [e9] at hq
        exact hq ls  (lv_sub hl [1, 2, 3, 4, 5] rfl)
      · refine lv_iload hx hb dX1_bestStart_46 (lv_at hl 0 rfl) ?_
        refine lv_bipush (v := nI 59) hx hb dX1_bestStart_48 rfl ?_
        refine mv_icmp_gt (tgt := 85) hx hb dX1_bestStart_50 (by decide) (by omega) (by decide) (fun c_6 => ?_) (fun c_6 => (by omega : False).elim)
        have e9 : T_36_1 = (x3_36, x2_36) := by rw [← hL_36, L_X1_bestStart_36, if_neg c_5]
        have hq := hexit_36
        rw [e9] at hq
        exact hq ls  (lv_sub hl [1, 2, 3, 4, 5] rfl)
    | succ n_36 ih_36 =>
      intro k_36 x3_36 x2_36 hk_36 hL_36 ls hl
      refine lv_iload hx hb dX1_bestStart_36 (lv_at hl 0 rfl) ?_
      refine lv_iload hx hb dX1_bestStart_38 (lv_at hl 1 rfl) ?_
      refine lv_iadd hx hb dX1_bestStart_40 ?_
      refine lv_bipush (v := nI 59) hx hb dX1_bestStart_41 rfl ?_
      refine lv_icmp_gt (tgt := 85) hx hb dX1_bestStart_43 (by decide) (fun c_1 => ?_) (fun c_1 => ?_)
      · have e9 : T_36_1 = (x3_36, x2_36) := by rw [← hL_36, L_X1_bestStart_36, if_pos c_1]
        have hq := hexit_36
        rw [e9] at hq
        exact hq ls  (lv_sub hl [1, 2, 3, 4, 5] rfl)
      · refine lv_iload hx hb dX1_bestStart_46 (lv_at hl 0 rfl) ?_
        refine lv_bipush (v := nI 59) hx hb dX1_bestStart_48 rfl ?_
        refine mv_icmp_gt (tgt := 85) hx hb dX1_bestStart_50 (by decide) (by omega) (by decide) (fun c_2 => (by omega : False).elim) (fun c_2 => ?_)
        refine lv_aload_n hx hb dX1_bestStart_53 rfl (lv_at hl 4 rfl) ?_
        refine lv_iload_n hx hb dX1_bestStart_54 rfl (lv_at hl 5 rfl) ?_
        refine lv_iload hx hb dX1_bestStart_55 (lv_at hl 0 rfl) ?_
        refine vp_callSi (va_Run.run (va_runV (As := [.int pa, .int (nI k_36)]) (rest := []) ⟨hx, hb, hml, hown, hts⟩ (c_X1_fineFrom l D cI cL cZ ad A tx td dr dy lb pn ps ks si kb pa (nI k_36) (by first | assumption | omega)) (cwV 2 hts gX1_bestStart_X1_fineFrom rfl rfl rfl (by decide +kernel) ⟨Nat.le_of_ble_eq_true rfl, Nat.le_of_ble_eq_true rfl⟩) ⟨sR_fb, va_recv hK hP (ci := 1) (q0 := 18) rfl rfl, sR_at hP hK hD hE⟩ rfl rfl hl.1 rfl (lv_room (Nat.le_of_ble_eq_true rfl)) dX1_bestStart_57 ⟨Nat.zero_le _, Nat.zero_le _⟩)) (fun r hr => ?_)
        subst hr
        refine lv_istore (lv' := [(6, .int (f_X1_fineFrom td dy pa (nI k_36))), (5, .int (nI k_36)), (4, .int ((((f_X6_walkOf td pa) + dy.2.2.2) + (f_X6_stayOf td pa)) - (nI 1))), (3, .int x3_36), (2, .int x2_36), (0, .ref (ad 18)), (1, .int pa)]) hx hb dX1_bestStart_60 hl (by decide) rfl (fun ls hl => ?_)
        refine lv_iload_n hx hb dX1_bestStart_62 rfl (lv_at hl 4 rfl) ?_
        refine lv_iconst (v := (-1)) hx hb dX1_bestStart_63 rfl ?_
        refine lv_icmp_eq (tgt := 73) hx hb dX1_bestStart_64 (by decide) (fun c_3 => ?_) (fun c_3 => ?_)
        · refine lv_iload hx hb dX1_bestStart_73 (lv_at hl 1 rfl) ?_
          refine lv_istore_n (lv' := [(2, .int (nI k_36)), (6, .int (f_X1_fineFrom td dy pa (nI k_36))), (5, .int (nI k_36)), (4, .int ((((f_X6_walkOf td pa) + dy.2.2.2) + (f_X6_stayOf td pa)) - (nI 1))), (3, .int x3_36), (0, .ref (ad 18)), (1, .int pa)]) hx hb dX1_bestStart_75 rfl hl (by decide) rfl (fun ls hl => ?_)
          refine lv_iload hx hb dX1_bestStart_76 (lv_at hl 1 rfl) ?_
          refine lv_istore_n (lv' := [(3, .int (f_X1_fineFrom td dy pa (nI k_36))), (2, .int (nI k_36)), (6, .int (f_X1_fineFrom td dy pa (nI k_36))), (5, .int (nI k_36)), (4, .int ((((f_X6_walkOf td pa) + dy.2.2.2) + (f_X6_stayOf td pa)) - (nI 1))), (0, .ref (ad 18)), (1, .int pa)]) hx hb dX1_bestStart_78 rfl hl (by decide) rfl (fun ls hl => ?_)
          refine mv_iinc (y := k_36 + 1) (lv' := [(5, .int (nI (k_36 + 1))), (3, .int (f_X1_fineFrom td dy pa (nI k_36))), (2, .int (nI k_36)), (6, .int (f_X1_fineFrom td dy pa (nI k_36))), (4, .int ((((f_X6_walkOf td pa) + dy.2.2.2) + (f_X6_stayOf td pa)) - (nI 1))), (0, .ref (ad 18)), (1, .int pa)]) hx hb dX1_bestStart_79 hl (k := 3) rfl (nI_p1 _) (by decide) rfl (fun ls hl => ?_)
          refine lv_goto (tgt := 36) hx hb dX1_bestStart_82 (by decide) ?_
          exact ih_36 (k_36 + 1) (f_X1_fineFrom td dy pa (nI k_36)) (nI k_36) (by omega) (by have e9 := hL_36; rw [L_X1_bestStart_36, if_neg c_1, if_pos c_3] at e9; exact e9) ls (lv_sub hl [0, 4, 1, 2, 5, 6] rfl)
        · refine lv_iload hx hb dX1_bestStart_67 (lv_at hl 0 rfl) ?_
          refine lv_iload_n hx hb dX1_bestStart_69 rfl (lv_at hl 3 rfl) ?_
          refine lv_icmp_ge (tgt := 79) hx hb dX1_bestStart_70 (by decide) (fun c_4 => ?_) (fun c_4 => ?_)
          · refine mv_iinc (y := k_36 + 1) (lv' := [(5, .int (nI (k_36 + 1))), (6, .int (f_X1_fineFrom td dy pa (nI k_36))), (4, .int ((((f_X6_walkOf td pa) + dy.2.2.2) + (f_X6_stayOf td pa)) - (nI 1))), (3, .int x3_36), (2, .int x2_36), (0, .ref (ad 18)), (1, .int pa)]) hx hb dX1_bestStart_79 hl (k := 1) rfl (nI_p1 _) (by decide) rfl (fun ls hl => ?_)
            refine lv_goto (tgt := 36) hx hb dX1_bestStart_82 (by decide) ?_
            exact ih_36 (k_36 + 1) x3_36 x2_36 (by omega) (by have e9 := hL_36; rw [L_X1_bestStart_36, if_neg c_1, if_neg c_3, if_pos c_4] at e9; exact e9) ls (lv_sub hl [0, 2, 3, 4, 5, 6] rfl)
          · refine lv_iload hx hb dX1_bestStart_73 (lv_at hl 1 rfl) ?_
            refine lv_istore_n (lv' := [(2, .int (nI k_36)), (6, .int (f_X1_fineFrom td dy pa (nI k_36))), (5, .int (nI k_36)), (4, .int ((((f_X6_walkOf td pa) + dy.2.2.2) + (f_X6_stayOf td pa)) - (nI 1))), (3, .int x3_36), (0, .ref (ad 18)), (1, .int pa)]) hx hb dX1_bestStart_75 rfl hl (by decide) rfl (fun ls hl => ?_)
            refine lv_iload hx hb dX1_bestStart_76 (lv_at hl 1 rfl) ?_
            refine lv_istore_n (lv' := [(3, .int (f_X1_fineFrom td dy pa (nI k_36))), (2, .int (nI k_36)), (6, .int (f_X1_fineFrom td dy pa (nI k_36))), (5, .int (nI k_36)), (4, .int ((((f_X6_walkOf td pa) + dy.2.2.2) + (f_X6_stayOf td pa)) - (nI 1))), (0, .ref (ad 18)), (1, .int pa)]) hx hb dX1_bestStart_78 rfl hl (by decide) rfl (fun ls hl => ?_)
            refine mv_iinc (y := k_36 + 1) (lv' := [(5, .int (nI (k_36 + 1))), (3, .int (f_X1_fineFrom td dy pa (nI k_36))), (2, .int (nI k_36)), (6, .int (f_X1_fineFrom td dy pa (nI k_36))), (4, .int ((((f_X6_walkOf td pa) + dy.2.2.2) + (f_X6_stayOf td pa)) - (nI 1))), (0, .ref (ad 18)), (1, .int pa)]) hx hb dX1_bestStart_79 hl (k := 3) rfl (nI_p1 _) (by decide) rfl (fun ls hl => ?_)
            refine lv_goto (tgt := 36) hx hb dX1_bestStart_82 (by decide) ?_
            exact ih_36 (k_36 + 1) (f_X1_fineFrom td dy pa (nI k_36)) (nI k_36) (by omega) (by have e9 := hL_36; rw [L_X1_bestStart_36, if_neg c_1, if_neg c_3, if_neg c_4] at e9; exact e9) ls (lv_sub hl [0, 4, 1, 2, 5, 6] rfl)
  exact loop_36 60 0 (nI 0) (-1 : Int32) (by omega) hT_36_1.symm ls (lv_sub hl [0, 1, 2, 3, 4, 5] rfl)
def L_X1_startBehind_5 (td : XTd) (dy : XDy) (go : Int32) : Nat → Nat → Int32 → Int32
  | 0, _, x3_5 => x3_5
  | n_5 + 1, k_5, x3_5 => (if (go &&& ((nI 1) <<< ((nI k_5) &&& 31))) = 0 then (L_X1_startBehind_5 td dy go n_5 (k_5 + 1) x3_5) else (L_X1_startBehind_5 td dy go n_5 (k_5 + 1) (x3_5 + (((f_X6_walkOf td (nI k_5)) + dy.2.2.2) + (f_X6_stayOf td (nI k_5))))))
def f_X1_startBehind (td : XTd) (dy : XDy) (go : Int32) (aa : Int32) : Int32 := (L_X1_startBehind_5 td dy go td.2.2.2.2.2.1 0 aa)
abbrev rm_X1_startBehind : Room := { frames := 1, cells := 0, slots := 0, locals := 21 }
set_option maxHeartbeats 4000000 in
set_option maxRecDepth 100000 in
theorem c_X1_startBehind (l : Launch) (D : va_G) (cI cL cZ : ClassId) (ad : Nat → Nat) (A : Nat → Prop) (tx : XTx) (td : XTd) (dr : XTd) (dy : XDy) (lb : (Nat → Int32)) (pn : (Nat × Nat)) (ps : XSh) (ks : XSh) (si : XSi) (kb : Int32) (go : Int32) (aa : Int32) (hpe : td.2.2.2.2.2.1 ≤ 6) : Met l yX1_startBehind wsX1_startBehind rm_X1_startBehind (va_Pc [.ref (ad 18), .int go, .int aa] (sR D cI cL cZ A (xW cI cL cZ ad tx td dr dy lb pn ps ks si kb))) (vp_Si (fun r => r = (f_X1_startBehind td dy go aa))) 0 0 (fun _ => False) := by
  refine Met.ofW (cc := cX1_startBehind) (maxL := 5) (ret := (some .int)) (by decide) rfl ?_
  intro p e s m args below meth c s₁ B hml hv
  obtain ⟨rfl, hP, hK, hD, hE⟩ := hv
  have hx := B.exec
  have hb := B.bytes
  have hr := B.returns
  have hts := atoms_spec (ws := wsX1_startBehind) B.pre
  have hown : s.vm.findClass RX1 = some m.cls := findClass_of_methodNamed B.named
  have hlocks := B.notSynchronized
  have hl := lv_entry ([.ref (ad 18), .int go, .int aa]) (n := 5) (Nat.le_of_ble_eq_true rfl)
  rw [lg_entry_eq]
  generalize (lg_sl ([.ref (ad 18), .int go, .int aa]) ++ List.replicate (5 - (lg_sl ([.ref (ad 18), .int go, .int aa])).length) Slot.unset).toArray = ls at hl ⊢
  have hl : lv_has ls 5 [(0, .ref (ad 18)), (1, .int go), (2, .int aa)] := hl
  obtain ⟨Q, hQe⟩ : ∃ Q, Q = MQ below (vp_Si (fun r => r = (f_X1_startBehind td dy go aa))) ([.ref (ad 18), .int go, .int aa] : List Value).toArray s 0 0 (fun _ => False) := ⟨_, rfl⟩
  show W p l e (headSpec wsX1_startBehind rm_X1_startBehind).room s m ([.ref (ad 18), .int go, .int aa] : List Value).toArray below meth c s.heap [] 0 0 (MQ below (vp_Si (fun r => r = (f_X1_startBehind td dy go aa))) ([.ref (ad 18), .int go, .int aa] : List Value).toArray s 0 0 (fun _ => False)) (F0 m 0 ls [])
  rw [← hQe]
  refine lv_iload_n hx hb dX1_startBehind_0 rfl (lv_at hl 2 rfl) ?_
  refine lv_istore_n (lv' := [(3, .int aa), (0, .ref (ad 18)), (1, .int go), (2, .int aa)]) hx hb dX1_startBehind_1 rfl hl (by decide) rfl (fun ls hl => ?_)
  refine lv_iconst (v := nI 0) hx hb dX1_startBehind_2 rfl ?_
  refine lv_istore (lv' := [(4, .int (nI 0)), (3, .int aa), (0, .ref (ad 18)), (1, .int go), (2, .int aa)]) hx hb dX1_startBehind_3 hl (by decide) rfl (fun ls hl => ?_)
  obtain ⟨T_5_1, hT_5_1⟩ : ∃ z, z = (L_X1_startBehind_5 td dy go td.2.2.2.2.2.1 0 aa) := ⟨_, rfl⟩
  have hexit_5 : ∀ (ls : Array Slot), lv_has ls 5 [(3, .int T_5_1), (0, .ref (ad 18)), (1, .int go), (2, .int aa)] → W p l e (headSpec wsX1_startBehind rm_X1_startBehind).room s m ([.ref (ad 18), .int go, .int aa] : List Value).toArray below meth c s.heap [] 0 0 Q (F0 m 62 ls []) := by
    intro ls hl
    refine lv_iload_n hx hb dX1_startBehind_62 rfl (lv_at hl 0 rfl) ?_
    subst hQe
    have hf : (f_X1_startBehind td dy go aa) = T_5_1 := by rw [f_X1_startBehind]; (try rw [← hT_5_1]); first | done | rfl
    exact W.iret (v := T_5_1) hx hb hr (fun t ht hW => ⟨T_5_1, rfl, hf.symm, ht⟩) (fun _ h => by cases h) dX1_startBehind_63
  have loop_5 : ∀ (n_5 : Nat) (k_5 : Nat) (x3_5 : Int32), (k_5 + n_5 = td.2.2.2.2.2.1) → L_X1_startBehind_5 td dy go n_5 k_5 x3_5 = T_5_1 → ∀ (ls : Array Slot), lv_has ls 5 [(4, .int (nI k_5)), (3, .int x3_5), (0, .ref (ad 18)), (1, .int go), (2, .int aa)] → W p l e (headSpec wsX1_startBehind rm_X1_startBehind).room s m ([.ref (ad 18), .int go, .int aa] : List Value).toArray below meth c s.heap [] 0 0 Q (F0 m 5 ls []) := by
    intro n_5
    induction n_5 with
    | zero =>
      intro k_5 x3_5 hk_5 hL_5 ls hl
      refine lv_iload hx hb dX1_startBehind_5 (lv_at hl 0 rfl) ?_
      refine lv_aload_n hx hb dX1_startBehind_7 rfl (lv_at hl 2 rfl) ?_
      refine va_get (D := D) (ci := 1) (v := .ref (ad 3)) (C := RX1) (T := TX1) (N := 3) hx hb hts (by decide +kernel) hown hK hP 18 rfl rfl 0 (by decide) (hts (.fieldLink RX1 15 "SummitTime$Ledger" "told" "LSummitTime$Told;") (by decide +kernel)) (fun _ h9 => h9) rfl dX1_startBehind_8 ?_
      refine va_getN (D := D) (ci := 6) (v := .int (nI td.2.2.2.2.2.1)) (C := RX6) (T := TX6) (N := 7) hx hb hts (by decide +kernel) hown hK hP 3 rfl rfl 5 (by decide) (va_Nw.use rfl hE.2.2.1) (fun _ h9 => h9) rfl dX1_startBehind_11 ?_
      refine mv_icmp_ge (tgt := 62) hx hb dX1_startBehind_14 (by decide) (by omega) (by omega) (fun c_3 => ?_) (fun c_3 => (by omega : False).elim)
      have e9 : T_5_1 = x3_5 := by rw [← hL_5, L_X1_startBehind_5]
      have hq := hexit_5
      rw [e9] at hq
      exact hq ls  (lv_sub hl [1, 2, 3, 4] rfl)
    | succ n_5 ih_5 =>
      intro k_5 x3_5 hk_5 hL_5 ls hl
      refine lv_iload hx hb dX1_startBehind_5 (lv_at hl 0 rfl) ?_
      refine lv_aload_n hx hb dX1_startBehind_7 rfl (lv_at hl 2 rfl) ?_
      refine va_get (D := D) (ci := 1) (v := .ref (ad 3)) (C := RX1) (T := TX1) (N := 3) hx hb hts (by decide +kernel) hown hK hP 18 rfl rfl 0 (by decide) (hts (.fieldLink RX1 15 "SummitTime$Ledger" "told" "LSummitTime$Told;") (by decide +kernel)) (fun _ h9 => h9) rfl dX1_startBehind_8 ?_
      refine va_getN (D := D) (ci := 6) (v := .int (nI td.2.2.2.2.2.1)) (C := RX6) (T := TX6) (N := 7) hx hb hts (by decide +kernel) hown hK hP 3 rfl rfl 5 (by decide) (va_Nw.use rfl hE.2.2.1) (fun _ h9 => h9) rfl dX1_startBehind_11 ?_
      refine mv_icmp_ge (tgt := 62) hx hb dX1_startBehind_14 (by decide) (by omega) (by omega) (fun c_1 => (by omega : False).elim) (fun c_1 => ?_)
      refine lv_iload_n hx hb dX1_startBehind_17 rfl (lv_at hl 3 rfl) ?_
      refine lv_iconst (v := nI 1) hx hb dX1_startBehind_18 rfl ?_
      refine lv_iload hx hb dX1_startBehind_19 (lv_at hl 0 rfl) ?_
      refine lv_ishl hx hb dX1_startBehind_21 ?_
      refine lv_iand hx hb dX1_startBehind_22 ?_
      refine lv_if_eq (tgt := 56) hx hb dX1_startBehind_23 (by decide) (fun c_2 => ?_) (fun c_2 => ?_)
      · refine mv_iinc (y := k_5 + 1) (lv' := [(4, .int (nI (k_5 + 1))), (3, .int x3_5), (0, .ref (ad 18)), (1, .int go), (2, .int aa)]) hx hb dX1_startBehind_56 hl (k := 0) rfl (nI_p1 _) (by decide) rfl (fun ls hl => ?_)
        refine lv_goto (tgt := 5) hx hb dX1_startBehind_59 (by decide) ?_
        exact ih_5 (k_5 + 1) x3_5 (by omega) (by have e9 := hL_5; rw [L_X1_startBehind_5, if_pos c_2] at e9; exact e9) ls (lv_sub hl [0, 1, 2, 3, 4] rfl)
      · refine lv_iload_n hx hb dX1_startBehind_26 rfl (lv_at hl 1 rfl) ?_
        refine lv_aload_n hx hb dX1_startBehind_27 rfl (lv_at hl 2 rfl) ?_
        refine va_get (D := D) (ci := 1) (v := .ref (ad 3)) (C := RX1) (T := TX1) (N := 3) hx hb hts (by decide +kernel) hown hK hP 18 rfl rfl 0 (by decide) (hts (.fieldLink RX1 15 "SummitTime$Ledger" "told" "LSummitTime$Told;") (by decide +kernel)) (fun _ h9 => h9) rfl dX1_startBehind_28 ?_
        refine lv_iload hx hb dX1_startBehind_31 (lv_at hl 0 rfl) ?_
        refine vp_callSi (va_Run.run (va_runV (As := [.int (nI k_5)]) (rest := [.int x3_5]) ⟨hx, hb, hml, hown, hts⟩ (c_X6_walkOf l D cI cL cZ ad A tx td dr dy lb pn ps ks si kb (nI k_5) ) (cwV 1 hts gX1_startBehind_X6_walkOf rfl rfl rfl (by decide +kernel) ⟨Nat.le_of_ble_eq_true rfl, Nat.le_of_ble_eq_true rfl⟩) ⟨sR_fb, va_recv hK hP (ci := 6) (q0 := 3) rfl rfl, sR_at hP hK hD hE⟩ rfl rfl hl.1 rfl (lv_room (Nat.le_of_ble_eq_true rfl)) dX1_startBehind_33 ⟨Nat.zero_le _, Nat.zero_le _⟩)) (fun r hr => ?_)
        subst hr
        refine lv_aload_n hx hb dX1_startBehind_36 rfl (lv_at hl 2 rfl) ?_
        refine va_get (D := D) (ci := 1) (v := .ref (ad 15)) (C := RX1) (T := TX1) (N := 3) hx hb hts (by decide +kernel) hown hK hP 18 rfl rfl 1 (by decide) (hts (.fieldLink RX1 19 "SummitTime$Ledger" "day" "LSummitTime$Day;") (by decide +kernel)) (fun _ h9 => h9) rfl dX1_startBehind_37 ?_
        refine va_getN (D := D) (ci := 0) (v := .int dy.2.2.2) (C := RX0) (T := TX0) (N := 4) hx hb hts (by decide +kernel) hown hK hP 15 rfl rfl 3 (by decide) (va_Nw.use rfl hE.2.2.2.1) (fun _ h9 => h9) rfl dX1_startBehind_40 ?_
        refine lv_iadd hx hb dX1_startBehind_43 ?_
        refine lv_aload_n hx hb dX1_startBehind_44 rfl (lv_at hl 2 rfl) ?_
        refine va_get (D := D) (ci := 1) (v := .ref (ad 3)) (C := RX1) (T := TX1) (N := 3) hx hb hts (by decide +kernel) hown hK hP 18 rfl rfl 0 (by decide) (hts (.fieldLink RX1 15 "SummitTime$Ledger" "told" "LSummitTime$Told;") (by decide +kernel)) (fun _ h9 => h9) rfl dX1_startBehind_45 ?_
        refine lv_iload hx hb dX1_startBehind_48 (lv_at hl 0 rfl) ?_
        refine vp_callSi (va_Run.run (va_runV (As := [.int (nI k_5)]) (rest := [.int ((f_X6_walkOf td (nI k_5)) + dy.2.2.2), .int x3_5]) ⟨hx, hb, hml, hown, hts⟩ (c_X6_stayOf l D cI cL cZ ad A tx td dr dy lb pn ps ks si kb (nI k_5) ) (cwV 1 hts gX1_startBehind_X6_stayOf rfl rfl rfl (by decide +kernel) ⟨Nat.le_of_ble_eq_true rfl, Nat.le_of_ble_eq_true rfl⟩) ⟨sR_fb, va_recv hK hP (ci := 6) (q0 := 3) rfl rfl, sR_at hP hK hD hE⟩ rfl rfl hl.1 rfl (lv_room (Nat.le_of_ble_eq_true rfl)) dX1_startBehind_50 ⟨Nat.zero_le _, Nat.zero_le _⟩)) (fun r hr => ?_)
        subst hr
        refine lv_iadd hx hb dX1_startBehind_53 ?_
        refine lv_iadd hx hb dX1_startBehind_54 ?_
        refine lv_istore_n (lv' := [(3, .int (x3_5 + (((f_X6_walkOf td (nI k_5)) + dy.2.2.2) + (f_X6_stayOf td (nI k_5))))), (4, .int (nI k_5)), (0, .ref (ad 18)), (1, .int go), (2, .int aa)]) hx hb dX1_startBehind_55 rfl hl (by decide) rfl (fun ls hl => ?_)
        refine mv_iinc (y := k_5 + 1) (lv' := [(4, .int (nI (k_5 + 1))), (3, .int (x3_5 + (((f_X6_walkOf td (nI k_5)) + dy.2.2.2) + (f_X6_stayOf td (nI k_5))))), (0, .ref (ad 18)), (1, .int go), (2, .int aa)]) hx hb dX1_startBehind_56 hl (k := 1) rfl (nI_p1 _) (by decide) rfl (fun ls hl => ?_)
        refine lv_goto (tgt := 5) hx hb dX1_startBehind_59 (by decide) ?_
        exact ih_5 (k_5 + 1) (x3_5 + (((f_X6_walkOf td (nI k_5)) + dy.2.2.2) + (f_X6_stayOf td (nI k_5)))) (by omega) (by have e9 := hL_5; rw [L_X1_startBehind_5, if_neg c_2] at e9; exact e9) ls (lv_sub hl [0, 1, 2, 3, 4] rfl)
  exact loop_5 td.2.2.2.2.2.1 0 aa (by omega) hT_5_1.symm ls (lv_sub hl [0, 1, 2, 3, 4] rfl)
def f_X1_leastWithNext (td : XTd) (dy : XDy) (lb : (Nat → Int32)) (go : Int32) (pa : Int32) (sta : Int32) : Int32 := (if (go ||| ((nI 1) <<< (pa &&& 31))) < 0 then (-1 : Int32) else (if nI 64 ≤ (go ||| ((nI 1) <<< (pa &&& 31))) then (-1 : Int32) else (if (lb (go ||| ((nI 1) <<< (pa &&& 31))).toNatClampNeg) = (-1 : Int32) then (-1 : Int32) else ((f_X1_withRope dy pa (f_X1_costOf td dy pa (f_X1_stands td pa sta dy.2.2.2))) + (lb (go ||| ((nI 1) <<< (pa &&& 31))).toNatClampNeg)))))
abbrev rm_X1_leastWithNext : Room := { frames := 3, cells := 0, slots := 0, locals := 71 }
set_option maxHeartbeats 4000000 in
set_option maxRecDepth 100000 in
theorem c_X1_leastWithNext (l : Launch) (D : va_G) (cI cL cZ : ClassId) (ad : Nat → Nat) (A : Nat → Prop) (tx : XTx) (td : XTd) (dr : XTd) (dy : XDy) (lb : (Nat → Int32)) (pn : (Nat × Nat)) (ps : XSh) (ks : XSh) (si : XSi) (kb : Int32) (go : Int32) (pa : Int32) (sta : Int32) (hpe : td.2.2.2.2.2.1 ≤ 6) : Met l yX1_leastWithNext wsX1_leastWithNext rm_X1_leastWithNext (va_Pc [.ref (ad 18), .int go, .int pa, .int sta] (sR D cI cL cZ A (xW cI cL cZ ad tx td dr dy lb pn ps ks si kb))) (vp_Si (fun r => r = (f_X1_leastWithNext td dy lb go pa sta))) 0 0 (fun _ => False) := by
  refine Met.ofW (cc := cX1_leastWithNext) (maxL := 6) (ret := (some .int)) (by decide) rfl ?_
  intro p e s m args below meth c s₁ B hml hv
  obtain ⟨rfl, hP, hK, hD, hE⟩ := hv
  have hx := B.exec
  have hb := B.bytes
  have hr := B.returns
  have hts := atoms_spec (ws := wsX1_leastWithNext) B.pre
  have hown : s.vm.findClass RX1 = some m.cls := findClass_of_methodNamed B.named
  have hlocks := B.notSynchronized
  have hl := lv_entry ([.ref (ad 18), .int go, .int pa, .int sta]) (n := 6) (Nat.le_of_ble_eq_true rfl)
  rw [lg_entry_eq]
  generalize (lg_sl ([.ref (ad 18), .int go, .int pa, .int sta]) ++ List.replicate (6 - (lg_sl ([.ref (ad 18), .int go, .int pa, .int sta])).length) Slot.unset).toArray = ls at hl ⊢
  have hl : lv_has ls 6 [(0, .ref (ad 18)), (1, .int go), (2, .int pa), (3, .int sta)] := hl
  refine lv_iload_n hx hb dX1_leastWithNext_0 rfl (lv_at hl 1 rfl) ?_
  refine lv_iconst (v := nI 1) hx hb dX1_leastWithNext_1 rfl ?_
  refine lv_iload_n hx hb dX1_leastWithNext_2 rfl (lv_at hl 2 rfl) ?_
  refine lv_ishl hx hb dX1_leastWithNext_3 ?_
  refine lv_ior hx hb dX1_leastWithNext_4 ?_
  refine lv_istore (lv' := [(4, .int (go ||| ((nI 1) <<< (pa &&& 31)))), (0, .ref (ad 18)), (1, .int go), (2, .int pa), (3, .int sta)]) hx hb dX1_leastWithNext_5 hl (by decide) rfl (fun ls hl => ?_)
  refine lv_iload hx hb dX1_leastWithNext_7 (lv_at hl 0 rfl) ?_
  refine lv_if_lt (tgt := 30) hx hb dX1_leastWithNext_9 (by decide) (fun c_1 => ?_) (fun c_1 => ?_)
  · refine lv_iconst (v := (-1)) hx hb dX1_leastWithNext_30 rfl ?_
    have hf : (f_X1_leastWithNext td dy lb go pa sta) = (-1 : Int32) := by rw [f_X1_leastWithNext, if_pos c_1]
    exact W.iret (v := (-1 : Int32)) hx hb hr (fun t ht hW => ⟨(-1 : Int32), rfl, hf.symm, ht⟩) (fun _ h => by cases h) dX1_leastWithNext_31
  · refine lv_iload hx hb dX1_leastWithNext_12 (lv_at hl 0 rfl) ?_
    refine lv_bipush (v := nI 64) hx hb dX1_leastWithNext_14 rfl ?_
    refine lv_icmp_ge (tgt := 30) hx hb dX1_leastWithNext_16 (by decide) (fun c_2 => ?_) (fun c_2 => ?_)
    · refine lv_iconst (v := (-1)) hx hb dX1_leastWithNext_30 rfl ?_
      have hf : (f_X1_leastWithNext td dy lb go pa sta) = (-1 : Int32) := by rw [f_X1_leastWithNext, if_neg c_1, if_pos c_2]
      exact W.iret (v := (-1 : Int32)) hx hb hr (fun t ht hW => ⟨(-1 : Int32), rfl, hf.symm, ht⟩) (fun _ h => by cases h) dX1_leastWithNext_31
    · refine lv_aload_n hx hb dX1_leastWithNext_19 rfl (lv_at hl 1 rfl) ?_
      refine va_get (D := D) (ci := 1) (v := .ref (ad 19)) (C := RX1) (T := TX1) (N := 3) hx hb hts (by decide +kernel) hown hK hP 18 rfl rfl 2 (by decide) (hts (.fieldLink RX1 9 "SummitTime$Ledger" "leastBehind" "[I") (by decide +kernel)) (fun _ h9 => h9) rfl dX1_leastWithNext_20 ?_
      refine lv_iload hx hb dX1_leastWithNext_23 (lv_at hl 0 rfl) ?_
      refine va_iald (f := lb) hx hb hK hP 19 0 rfl rfl (ix_g 64 (by decide) (by decide) c_1 c_2) dX1_leastWithNext_25 ?_
      refine lv_iconst (v := (-1)) hx hb dX1_leastWithNext_26 rfl ?_
      refine lv_icmp_ne (tgt := 32) hx hb dX1_leastWithNext_27 (by decide) (fun c_3 => ?_) (fun c_3 => ?_)
      · refine lv_aload_n hx hb dX1_leastWithNext_32 rfl (lv_at hl 1 rfl) ?_
        refine lv_iload_n hx hb dX1_leastWithNext_33 rfl (lv_at hl 3 rfl) ?_
        refine lv_aload_n hx hb dX1_leastWithNext_34 rfl (lv_at hl 1 rfl) ?_
        refine lv_iload_n hx hb dX1_leastWithNext_35 rfl (lv_at hl 3 rfl) ?_
        refine lv_aload_n hx hb dX1_leastWithNext_36 rfl (lv_at hl 1 rfl) ?_
        refine lv_iload_n hx hb dX1_leastWithNext_37 rfl (lv_at hl 3 rfl) ?_
        refine lv_iload_n hx hb dX1_leastWithNext_38 rfl (lv_at hl 4 rfl) ?_
        refine lv_aload_n hx hb dX1_leastWithNext_39 rfl (lv_at hl 1 rfl) ?_
        refine va_get (D := D) (ci := 1) (v := .ref (ad 15)) (C := RX1) (T := TX1) (N := 3) hx hb hts (by decide +kernel) hown hK hP 18 rfl rfl 1 (by decide) (hts (.fieldLink RX1 19 "SummitTime$Ledger" "day" "LSummitTime$Day;") (by decide +kernel)) (fun _ h9 => h9) rfl dX1_leastWithNext_40 ?_
        refine va_getN (D := D) (ci := 0) (v := .int dy.2.2.2) (C := RX0) (T := TX0) (N := 4) hx hb hts (by decide +kernel) hown hK hP 15 rfl rfl 3 (by decide) (va_Nw.use rfl hE.2.2.2.1) (fun _ h9 => h9) rfl dX1_leastWithNext_43 ?_
        refine vp_callSl (va_Run.run (va_runV (As := [.int pa, .int sta, .int dy.2.2.2]) (rest := [.int pa, .ref (ad 18), .int pa, .ref (ad 18)]) ⟨hx, hb, hml, hown, hts⟩ (c_X1_stands l D cI cL cZ ad A tx td dr dy lb pn ps ks si kb pa sta dy.2.2.2 ) (cwV 3 hts gX1_leastWithNext_X1_stands rfl rfl rfl (by decide +kernel) ⟨Nat.le_of_ble_eq_true rfl, Nat.le_of_ble_eq_true rfl⟩) ⟨sR_fb, va_recv hK hP (ci := 1) (q0 := 18) rfl rfl, sR_at hP hK hD hE⟩ rfl rfl hl.1 rfl (lv_room (Nat.le_of_ble_eq_true rfl)) dX1_leastWithNext_46 ⟨Nat.zero_le _, Nat.zero_le _⟩)) (fun r hr => ?_)
        subst hr
        refine vp_callSi (va_Run.run (va_runV (As := [.int pa, .long (f_X1_stands td pa sta dy.2.2.2)]) (rest := [.int pa, .ref (ad 18)]) ⟨hx, hb, hml, hown, hts⟩ (c_X1_costOf l D cI cL cZ ad A tx td dr dy lb pn ps ks si kb pa (f_X1_stands td pa sta dy.2.2.2) (by first | assumption | omega)) (cwV 2 hts gX1_leastWithNext_X1_costOf rfl rfl rfl (by decide +kernel) ⟨Nat.le_of_ble_eq_true rfl, Nat.le_of_ble_eq_true rfl⟩) ⟨sR_fb, va_recv hK hP (ci := 1) (q0 := 18) rfl rfl, sR_at hP hK hD hE⟩ rfl rfl hl.1 rfl (lv_room (Nat.le_of_ble_eq_true rfl)) dX1_leastWithNext_49 ⟨Nat.zero_le _, Nat.zero_le _⟩)) (fun r hr => ?_)
        subst hr
        refine vp_callSi (va_Run.run (va_runV (As := [.int pa, .int (f_X1_costOf td dy pa (f_X1_stands td pa sta dy.2.2.2))]) (rest := []) ⟨hx, hb, hml, hown, hts⟩ (c_X1_withRope l D cI cL cZ ad A tx td dr dy lb pn ps ks si kb pa (f_X1_costOf td dy pa (f_X1_stands td pa sta dy.2.2.2)) ) (cwV 2 hts gX1_leastWithNext_X1_withRope rfl rfl rfl (by decide +kernel) ⟨Nat.le_of_ble_eq_true rfl, Nat.le_of_ble_eq_true rfl⟩) ⟨sR_fb, va_recv hK hP (ci := 1) (q0 := 18) rfl rfl, sR_at hP hK hD hE⟩ rfl rfl hl.1 rfl (lv_room (Nat.le_of_ble_eq_true rfl)) dX1_leastWithNext_52 ⟨Nat.zero_le _, Nat.zero_le _⟩)) (fun r hr => ?_)
        subst hr
        refine lv_istore (lv' := [(5, .int (f_X1_withRope dy pa (f_X1_costOf td dy pa (f_X1_stands td pa sta dy.2.2.2)))), (4, .int (go ||| ((nI 1) <<< (pa &&& 31)))), (0, .ref (ad 18)), (1, .int go), (2, .int pa), (3, .int sta)]) hx hb dX1_leastWithNext_55 hl (by decide) rfl (fun ls hl => ?_)
        refine lv_iload hx hb dX1_leastWithNext_57 (lv_at hl 0 rfl) ?_
        refine lv_aload_n hx hb dX1_leastWithNext_59 rfl (lv_at hl 2 rfl) ?_
        refine va_get (D := D) (ci := 1) (v := .ref (ad 19)) (C := RX1) (T := TX1) (N := 3) hx hb hts (by decide +kernel) hown hK hP 18 rfl rfl 2 (by decide) (hts (.fieldLink RX1 9 "SummitTime$Ledger" "leastBehind" "[I") (by decide +kernel)) (fun _ h9 => h9) rfl dX1_leastWithNext_60 ?_
        refine lv_iload hx hb dX1_leastWithNext_63 (lv_at hl 1 rfl) ?_
        refine va_iald (f := lb) hx hb hK hP 19 0 rfl rfl (ix_g 64 (by decide) (by decide) c_1 c_2) dX1_leastWithNext_65 ?_
        refine lv_iadd hx hb dX1_leastWithNext_66 ?_
        have hf : (f_X1_leastWithNext td dy lb go pa sta) = ((f_X1_withRope dy pa (f_X1_costOf td dy pa (f_X1_stands td pa sta dy.2.2.2))) + (lb (go ||| ((nI 1) <<< (pa &&& 31))).toNatClampNeg)) := by rw [f_X1_leastWithNext, if_neg c_1, if_neg c_2, if_neg c_3]
        exact W.iret (v := ((f_X1_withRope dy pa (f_X1_costOf td dy pa (f_X1_stands td pa sta dy.2.2.2))) + (lb (go ||| ((nI 1) <<< (pa &&& 31))).toNatClampNeg))) hx hb hr (fun t ht hW => ⟨((f_X1_withRope dy pa (f_X1_costOf td dy pa (f_X1_stands td pa sta dy.2.2.2))) + (lb (go ||| ((nI 1) <<< (pa &&& 31))).toNatClampNeg)), rfl, hf.symm, ht⟩) (fun _ h => by cases h) dX1_leastWithNext_67
      · refine lv_iconst (v := (-1)) hx hb dX1_leastWithNext_30 rfl ?_
        have hf : (f_X1_leastWithNext td dy lb go pa sta) = (-1 : Int32) := by rw [f_X1_leastWithNext, if_neg c_1, if_neg c_2, if_pos c_3]
        exact W.iret (v := (-1 : Int32)) hx hb hr (fun t ht hW => ⟨(-1 : Int32), rfl, hf.symm, ht⟩) (fun _ h => by cases h) dX1_leastWithNext_31
def L_X1_leastOfRest_23 (td : XTd) (dy : XDy) (lb : (Nat → Int32)) (set : Int32) (go : Int32) (aa : Int32) : Nat → Nat → Int32 → Int32
  | 0, _, x5_23 => x5_23
  | n_23 + 1, k_23, x5_23 => (if ((set &&& (go ^^^ (-1 : Int32))) &&& ((nI 1) <<< ((nI k_23) &&& 31))) = 0 then (L_X1_leastOfRest_23 td dy lb set go aa n_23 (k_23 + 1) x5_23) else (if (f_X1_leastWithNext td dy lb go (nI k_23) (f_X1_startBehind td dy go aa)) = (-1 : Int32) then (L_X1_leastOfRest_23 td dy lb set go aa n_23 (k_23 + 1) x5_23) else (if x5_23 = (-1 : Int32) then (L_X1_leastOfRest_23 td dy lb set go aa n_23 (k_23 + 1) (f_X1_leastWithNext td dy lb go (nI k_23) (f_X1_startBehind td dy go aa))) else (if x5_23 ≤ (f_X1_leastWithNext td dy lb go (nI k_23) (f_X1_startBehind td dy go aa)) then (L_X1_leastOfRest_23 td dy lb set go aa n_23 (k_23 + 1) x5_23) else (L_X1_leastOfRest_23 td dy lb set go aa n_23 (k_23 + 1) (f_X1_leastWithNext td dy lb go (nI k_23) (f_X1_startBehind td dy go aa)))))))
def f_X1_leastOfRest (td : XTd) (dy : XDy) (lb : (Nat → Int32)) (set : Int32) (go : Int32) (aa : Int32) : Int32 := (if (f_X1_startBehind td dy go aa) ≤ nI 59 then (L_X1_leastOfRest_23 td dy lb set go aa td.2.2.2.2.2.1 0 (-1 : Int32)) else (-1 : Int32))
abbrev rm_X1_leastOfRest : Room := { frames := 4, cells := 0, slots := 0, locals := 96 }
set_option maxHeartbeats 4000000 in
set_option maxRecDepth 100000 in
theorem c_X1_leastOfRest (l : Launch) (D : va_G) (cI cL cZ : ClassId) (ad : Nat → Nat) (A : Nat → Prop) (tx : XTx) (td : XTd) (dr : XTd) (dy : XDy) (lb : (Nat → Int32)) (pn : (Nat × Nat)) (ps : XSh) (ks : XSh) (si : XSi) (kb : Int32) (set : Int32) (go : Int32) (aa : Int32) (hpe : td.2.2.2.2.2.1 ≤ 6) : Met l yX1_leastOfRest wsX1_leastOfRest rm_X1_leastOfRest (va_Pc [.ref (ad 18), .int set, .int go, .int aa] (sR D cI cL cZ A (xW cI cL cZ ad tx td dr dy lb pn ps ks si kb))) (vp_Si (fun r => r = (f_X1_leastOfRest td dy lb set go aa))) 0 0 (fun _ => False) := by
  refine Met.ofW (cc := cX1_leastOfRest) (maxL := 8) (ret := (some .int)) (by decide) rfl ?_
  intro p e s m args below meth c s₁ B hml hv
  obtain ⟨rfl, hP, hK, hD, hE⟩ := hv
  have hx := B.exec
  have hb := B.bytes
  have hr := B.returns
  have hts := atoms_spec (ws := wsX1_leastOfRest) B.pre
  have hown : s.vm.findClass RX1 = some m.cls := findClass_of_methodNamed B.named
  have hlocks := B.notSynchronized
  have hl := lv_entry ([.ref (ad 18), .int set, .int go, .int aa]) (n := 8) (Nat.le_of_ble_eq_true rfl)
  rw [lg_entry_eq]
  generalize (lg_sl ([.ref (ad 18), .int set, .int go, .int aa]) ++ List.replicate (8 - (lg_sl ([.ref (ad 18), .int set, .int go, .int aa])).length) Slot.unset).toArray = ls at hl ⊢
  have hl : lv_has ls 8 [(0, .ref (ad 18)), (1, .int set), (2, .int go), (3, .int aa)] := hl
  obtain ⟨Q, hQe⟩ : ∃ Q, Q = MQ below (vp_Si (fun r => r = (f_X1_leastOfRest td dy lb set go aa))) ([.ref (ad 18), .int set, .int go, .int aa] : List Value).toArray s 0 0 (fun _ => False) := ⟨_, rfl⟩
  show W p l e (headSpec wsX1_leastOfRest rm_X1_leastOfRest).room s m ([.ref (ad 18), .int set, .int go, .int aa] : List Value).toArray below meth c s.heap [] 0 0 (MQ below (vp_Si (fun r => r = (f_X1_leastOfRest td dy lb set go aa))) ([.ref (ad 18), .int set, .int go, .int aa] : List Value).toArray s 0 0 (fun _ => False)) (F0 m 0 ls [])
  rw [← hQe]
  refine lv_aload_n hx hb dX1_leastOfRest_0 rfl (lv_at hl 0 rfl) ?_
  refine lv_iload_n hx hb dX1_leastOfRest_1 rfl (lv_at hl 2 rfl) ?_
  refine lv_iload_n hx hb dX1_leastOfRest_2 rfl (lv_at hl 3 rfl) ?_
  refine vp_callSi (va_Run.run (va_runV (As := [.int go, .int aa]) (rest := []) ⟨hx, hb, hml, hown, hts⟩ (c_X1_startBehind l D cI cL cZ ad A tx td dr dy lb pn ps ks si kb go aa (by first | assumption | omega)) (cwV 2 hts gX1_leastOfRest_X1_startBehind rfl rfl rfl (by decide +kernel) ⟨Nat.le_of_ble_eq_true rfl, Nat.le_of_ble_eq_true rfl⟩) ⟨sR_fb, va_recv hK hP (ci := 1) (q0 := 18) rfl rfl, sR_at hP hK hD hE⟩ rfl rfl hl.1 rfl (lv_room (Nat.le_of_ble_eq_true rfl)) dX1_leastOfRest_3 ⟨Nat.zero_le _, Nat.zero_le _⟩)) (fun r hr => ?_)
  subst hr
  refine lv_istore (lv' := [(4, .int (f_X1_startBehind td dy go aa)), (0, .ref (ad 18)), (1, .int set), (2, .int go), (3, .int aa)]) hx hb dX1_leastOfRest_6 hl (by decide) rfl (fun ls hl => ?_)
  refine lv_iload hx hb dX1_leastOfRest_8 (lv_at hl 0 rfl) ?_
  refine lv_bipush (v := nI 59) hx hb dX1_leastOfRest_10 rfl ?_
  refine lv_icmp_le (tgt := 17) hx hb dX1_leastOfRest_12 (by decide) (fun c_1 => ?_) (fun c_1 => ?_)
  · refine lv_iconst (v := (-1)) hx hb dX1_leastOfRest_17 rfl ?_
    refine lv_istore (lv' := [(5, .int (-1 : Int32)), (4, .int (f_X1_startBehind td dy go aa)), (0, .ref (ad 18)), (1, .int set), (2, .int go), (3, .int aa)]) hx hb dX1_leastOfRest_18 hl (by decide) rfl (fun ls hl => ?_)
    refine lv_iconst (v := nI 0) hx hb dX1_leastOfRest_20 rfl ?_
    refine lv_istore (lv' := [(6, .int (nI 0)), (5, .int (-1 : Int32)), (4, .int (f_X1_startBehind td dy go aa)), (0, .ref (ad 18)), (1, .int set), (2, .int go), (3, .int aa)]) hx hb dX1_leastOfRest_21 hl (by decide) rfl (fun ls hl => ?_)
    obtain ⟨T_23_1, hT_23_1⟩ : ∃ z, z = (L_X1_leastOfRest_23 td dy lb set go aa td.2.2.2.2.2.1 0 (-1 : Int32)) := ⟨_, rfl⟩
    have hexit_23 : ∀ (ls : Array Slot), lv_has ls 8 [(5, .int T_23_1), (4, .int (f_X1_startBehind td dy go aa)), (0, .ref (ad 18)), (1, .int set), (2, .int go), (3, .int aa)] → W p l e (headSpec wsX1_leastOfRest rm_X1_leastOfRest).room s m ([.ref (ad 18), .int set, .int go, .int aa] : List Value).toArray below meth c s.heap [] 0 0 Q (F0 m 88 ls []) := by
      intro ls hl
      refine lv_iload hx hb dX1_leastOfRest_88 (lv_at hl 0 rfl) ?_
      subst hQe
      have hf : (f_X1_leastOfRest td dy lb set go aa) = T_23_1 := by rw [f_X1_leastOfRest]; (try rw [← hT_23_1]); first | done | rw [if_pos c_1]
      exact W.iret (v := T_23_1) hx hb hr (fun t ht hW => ⟨T_23_1, rfl, hf.symm, ht⟩) (fun _ h => by cases h) dX1_leastOfRest_90
    have loop_23 : ∀ (n_23 : Nat) (k_23 : Nat) (x5_23 : Int32), (k_23 + n_23 = td.2.2.2.2.2.1) → L_X1_leastOfRest_23 td dy lb set go aa n_23 k_23 x5_23 = T_23_1 → ∀ (ls : Array Slot), lv_has ls 8 [(6, .int (nI k_23)), (5, .int x5_23), (4, .int (f_X1_startBehind td dy go aa)), (0, .ref (ad 18)), (1, .int set), (2, .int go), (3, .int aa)] → W p l e (headSpec wsX1_leastOfRest rm_X1_leastOfRest).room s m ([.ref (ad 18), .int set, .int go, .int aa] : List Value).toArray below meth c s.heap [] 0 0 Q (F0 m 23 ls []) := by
      intro n_23
      induction n_23 with
      | zero =>
        intro k_23 x5_23 hk_23 hL_23 ls hl
        refine lv_iload hx hb dX1_leastOfRest_23 (lv_at hl 0 rfl) ?_
        refine lv_aload_n hx hb dX1_leastOfRest_25 rfl (lv_at hl 3 rfl) ?_
        refine va_get (D := D) (ci := 1) (v := .ref (ad 3)) (C := RX1) (T := TX1) (N := 3) hx hb hts (by decide +kernel) hown hK hP 18 rfl rfl 0 (by decide) (hts (.fieldLink RX1 15 "SummitTime$Ledger" "told" "LSummitTime$Told;") (by decide +kernel)) (fun _ h9 => h9) rfl dX1_leastOfRest_26 ?_
        refine va_getN (D := D) (ci := 6) (v := .int (nI td.2.2.2.2.2.1)) (C := RX6) (T := TX6) (N := 7) hx hb hts (by decide +kernel) hown hK hP 3 rfl rfl 5 (by decide) (va_Nw.use rfl hE.2.2.1) (fun _ h9 => h9) rfl dX1_leastOfRest_29 ?_
        refine mv_icmp_ge (tgt := 88) hx hb dX1_leastOfRest_32 (by decide) (by omega) (by omega) (fun c_7 => ?_) (fun c_7 => (by omega : False).elim)
        have e9 : T_23_1 = x5_23 := by rw [← hL_23, L_X1_leastOfRest_23]
        have hq := hexit_23
        rw [e9] at hq
        exact hq ls  (lv_sub hl [1, 2, 3, 4, 5, 6] rfl)
      | succ n_23 ih_23 =>
        intro k_23 x5_23 hk_23 hL_23 ls hl
        refine lv_iload hx hb dX1_leastOfRest_23 (lv_at hl 0 rfl) ?_
        refine lv_aload_n hx hb dX1_leastOfRest_25 rfl (lv_at hl 3 rfl) ?_
        refine va_get (D := D) (ci := 1) (v := .ref (ad 3)) (C := RX1) (T := TX1) (N := 3) hx hb hts (by decide +kernel) hown hK hP 18 rfl rfl 0 (by decide) (hts (.fieldLink RX1 15 "SummitTime$Ledger" "told" "LSummitTime$Told;") (by decide +kernel)) (fun _ h9 => h9) rfl dX1_leastOfRest_26 ?_
        refine va_getN (D := D) (ci := 6) (v := .int (nI td.2.2.2.2.2.1)) (C := RX6) (T := TX6) (N := 7) hx hb hts (by decide +kernel) hown hK hP 3 rfl rfl 5 (by decide) (va_Nw.use rfl hE.2.2.1) (fun _ h9 => h9) rfl dX1_leastOfRest_29 ?_
        refine mv_icmp_ge (tgt := 88) hx hb dX1_leastOfRest_32 (by decide) (by omega) (by omega) (fun c_2 => (by omega : False).elim) (fun c_2 => ?_)
        refine lv_iload_n hx hb dX1_leastOfRest_35 rfl (lv_at hl 4 rfl) ?_
        refine lv_iload_n hx hb dX1_leastOfRest_36 rfl (lv_at hl 5 rfl) ?_
        refine lv_iconst (v := (-1)) hx hb dX1_leastOfRest_37 rfl ?_
        refine lv_ixor hx hb dX1_leastOfRest_38 ?_
        refine lv_iand hx hb dX1_leastOfRest_39 ?_
        refine lv_iconst (v := nI 1) hx hb dX1_leastOfRest_40 rfl ?_
        refine lv_iload hx hb dX1_leastOfRest_41 (lv_at hl 0 rfl) ?_
        refine lv_ishl hx hb dX1_leastOfRest_43 ?_
        refine lv_iand hx hb dX1_leastOfRest_44 ?_
        refine lv_if_eq (tgt := 82) hx hb dX1_leastOfRest_45 (by decide) (fun c_3 => ?_) (fun c_3 => ?_)
        · refine mv_iinc (y := k_23 + 1) (lv' := [(6, .int (nI (k_23 + 1))), (5, .int x5_23), (4, .int (f_X1_startBehind td dy go aa)), (0, .ref (ad 18)), (1, .int set), (2, .int go), (3, .int aa)]) hx hb dX1_leastOfRest_82 hl (k := 0) rfl (nI_p1 _) (by decide) rfl (fun ls hl => ?_)
          refine lv_goto (tgt := 23) hx hb dX1_leastOfRest_85 (by decide) ?_
          exact ih_23 (k_23 + 1) x5_23 (by omega) (by have e9 := hL_23; rw [L_X1_leastOfRest_23, if_pos c_3] at e9; exact e9) ls (lv_sub hl [0, 1, 2, 3, 4, 5, 6] rfl)
        · refine lv_aload_n hx hb dX1_leastOfRest_48 rfl (lv_at hl 3 rfl) ?_
          refine lv_iload_n hx hb dX1_leastOfRest_49 rfl (lv_at hl 5 rfl) ?_
          refine lv_iload hx hb dX1_leastOfRest_50 (lv_at hl 0 rfl) ?_
          refine lv_iload hx hb dX1_leastOfRest_52 (lv_at hl 2 rfl) ?_
          refine vp_callSi (va_Run.run (va_runV (As := [.int go, .int (nI k_23), .int (f_X1_startBehind td dy go aa)]) (rest := []) ⟨hx, hb, hml, hown, hts⟩ (c_X1_leastWithNext l D cI cL cZ ad A tx td dr dy lb pn ps ks si kb go (nI k_23) (f_X1_startBehind td dy go aa) (by first | assumption | omega)) (cwV 3 hts gX1_leastOfRest_X1_leastWithNext rfl rfl rfl (by decide +kernel) ⟨Nat.le_of_ble_eq_true rfl, Nat.le_of_ble_eq_true rfl⟩) ⟨sR_fb, va_recv hK hP (ci := 1) (q0 := 18) rfl rfl, sR_at hP hK hD hE⟩ rfl rfl hl.1 rfl (lv_room (Nat.le_of_ble_eq_true rfl)) dX1_leastOfRest_54 ⟨Nat.zero_le _, Nat.zero_le _⟩)) (fun r hr => ?_)
          subst hr
          refine lv_istore (lv' := [(7, .int (f_X1_leastWithNext td dy lb go (nI k_23) (f_X1_startBehind td dy go aa))), (6, .int (nI k_23)), (5, .int x5_23), (4, .int (f_X1_startBehind td dy go aa)), (0, .ref (ad 18)), (1, .int set), (2, .int go), (3, .int aa)]) hx hb dX1_leastOfRest_57 hl (by decide) rfl (fun ls hl => ?_)
          refine lv_iload hx hb dX1_leastOfRest_59 (lv_at hl 0 rfl) ?_
          refine lv_iconst (v := (-1)) hx hb dX1_leastOfRest_61 rfl ?_
          refine lv_icmp_eq (tgt := 82) hx hb dX1_leastOfRest_62 (by decide) (fun c_4 => ?_) (fun c_4 => ?_)
          · refine mv_iinc (y := k_23 + 1) (lv' := [(6, .int (nI (k_23 + 1))), (7, .int (f_X1_leastWithNext td dy lb go (nI k_23) (f_X1_startBehind td dy go aa))), (5, .int x5_23), (4, .int (f_X1_startBehind td dy go aa)), (0, .ref (ad 18)), (1, .int set), (2, .int go), (3, .int aa)]) hx hb dX1_leastOfRest_82 hl (k := 1) rfl (nI_p1 _) (by decide) rfl (fun ls hl => ?_)
            refine lv_goto (tgt := 23) hx hb dX1_leastOfRest_85 (by decide) ?_
            exact ih_23 (k_23 + 1) x5_23 (by omega) (by have e9 := hL_23; rw [L_X1_leastOfRest_23, if_neg c_3, if_pos c_4] at e9; exact e9) ls (lv_sub hl [0, 2, 3, 4, 5, 6, 7] rfl)
          · refine lv_iload hx hb dX1_leastOfRest_65 (lv_at hl 2 rfl) ?_
            refine lv_iconst (v := (-1)) hx hb dX1_leastOfRest_67 rfl ?_
            refine lv_icmp_eq (tgt := 78) hx hb dX1_leastOfRest_68 (by decide) (fun c_5 => ?_) (fun c_5 => ?_)
            · refine lv_iload hx hb dX1_leastOfRest_78 (lv_at hl 0 rfl) ?_
              refine lv_istore (lv' := [(5, .int (f_X1_leastWithNext td dy lb go (nI k_23) (f_X1_startBehind td dy go aa))), (7, .int (f_X1_leastWithNext td dy lb go (nI k_23) (f_X1_startBehind td dy go aa))), (6, .int (nI k_23)), (4, .int (f_X1_startBehind td dy go aa)), (0, .ref (ad 18)), (1, .int set), (2, .int go), (3, .int aa)]) hx hb dX1_leastOfRest_80 hl (by decide) rfl (fun ls hl => ?_)
              refine mv_iinc (y := k_23 + 1) (lv' := [(6, .int (nI (k_23 + 1))), (5, .int (f_X1_leastWithNext td dy lb go (nI k_23) (f_X1_startBehind td dy go aa))), (7, .int (f_X1_leastWithNext td dy lb go (nI k_23) (f_X1_startBehind td dy go aa))), (4, .int (f_X1_startBehind td dy go aa)), (0, .ref (ad 18)), (1, .int set), (2, .int go), (3, .int aa)]) hx hb dX1_leastOfRest_82 hl (k := 2) rfl (nI_p1 _) (by decide) rfl (fun ls hl => ?_)
              refine lv_goto (tgt := 23) hx hb dX1_leastOfRest_85 (by decide) ?_
              exact ih_23 (k_23 + 1) (f_X1_leastWithNext td dy lb go (nI k_23) (f_X1_startBehind td dy go aa)) (by omega) (by have e9 := hL_23; rw [L_X1_leastOfRest_23, if_neg c_3, if_neg c_4, if_pos c_5] at e9; exact e9) ls (lv_sub hl [0, 1, 3, 4, 5, 6, 7] rfl)
            · refine lv_iload hx hb dX1_leastOfRest_71 (lv_at hl 0 rfl) ?_
              refine lv_iload hx hb dX1_leastOfRest_73 (lv_at hl 2 rfl) ?_
              refine lv_icmp_ge (tgt := 82) hx hb dX1_leastOfRest_75 (by decide) (fun c_6 => ?_) (fun c_6 => ?_)
              · refine mv_iinc (y := k_23 + 1) (lv' := [(6, .int (nI (k_23 + 1))), (7, .int (f_X1_leastWithNext td dy lb go (nI k_23) (f_X1_startBehind td dy go aa))), (5, .int x5_23), (4, .int (f_X1_startBehind td dy go aa)), (0, .ref (ad 18)), (1, .int set), (2, .int go), (3, .int aa)]) hx hb dX1_leastOfRest_82 hl (k := 1) rfl (nI_p1 _) (by decide) rfl (fun ls hl => ?_)
                refine lv_goto (tgt := 23) hx hb dX1_leastOfRest_85 (by decide) ?_
                exact ih_23 (k_23 + 1) x5_23 (by omega) (by have e9 := hL_23; rw [L_X1_leastOfRest_23, if_neg c_3, if_neg c_4, if_neg c_5, if_pos c_6] at e9; exact e9) ls (lv_sub hl [0, 2, 3, 4, 5, 6, 7] rfl)
              · refine lv_iload hx hb dX1_leastOfRest_78 (lv_at hl 0 rfl) ?_
                refine lv_istore (lv' := [(5, .int (f_X1_leastWithNext td dy lb go (nI k_23) (f_X1_startBehind td dy go aa))), (7, .int (f_X1_leastWithNext td dy lb go (nI k_23) (f_X1_startBehind td dy go aa))), (6, .int (nI k_23)), (4, .int (f_X1_startBehind td dy go aa)), (0, .ref (ad 18)), (1, .int set), (2, .int go), (3, .int aa)]) hx hb dX1_leastOfRest_80 hl (by decide) rfl (fun ls hl => ?_)
                refine mv_iinc (y := k_23 + 1) (lv' := [(6, .int (nI (k_23 + 1))), (5, .int (f_X1_leastWithNext td dy lb go (nI k_23) (f_X1_startBehind td dy go aa))), (7, .int (f_X1_leastWithNext td dy lb go (nI k_23) (f_X1_startBehind td dy go aa))), (4, .int (f_X1_startBehind td dy go aa)), (0, .ref (ad 18)), (1, .int set), (2, .int go), (3, .int aa)]) hx hb dX1_leastOfRest_82 hl (k := 2) rfl (nI_p1 _) (by decide) rfl (fun ls hl => ?_)
                refine lv_goto (tgt := 23) hx hb dX1_leastOfRest_85 (by decide) ?_
                exact ih_23 (k_23 + 1) (f_X1_leastWithNext td dy lb go (nI k_23) (f_X1_startBehind td dy go aa)) (by omega) (by have e9 := hL_23; rw [L_X1_leastOfRest_23, if_neg c_3, if_neg c_4, if_neg c_5, if_neg c_6] at e9; exact e9) ls (lv_sub hl [0, 1, 3, 4, 5, 6, 7] rfl)
    exact loop_23 td.2.2.2.2.2.1 0 (-1 : Int32) (by omega) hT_23_1.symm ls (lv_sub hl [0, 1, 2, 3, 4, 5, 6] rfl)
  · refine lv_iconst (v := (-1)) hx hb dX1_leastOfRest_15 rfl ?_
    subst hQe
    have hf : (f_X1_leastOfRest td dy lb set go aa) = (-1 : Int32) := by rw [f_X1_leastOfRest, if_neg c_1]
    exact W.iret (v := (-1 : Int32)) hx hb hr (fun t ht hW => ⟨(-1 : Int32), rfl, hf.symm, ht⟩) (fun _ h => by cases h) dX1_leastOfRest_16
def L_X1_leastInOrder_3 (td : XTd) (dy : XDy) (set : Int32) (aa : Int32) : Nat → (Nat → Int32) → (Nat → Int32)
  | 0, wlb0_3 => wlb0_3
  | n_3 + 1, wlb0_3 => (if ((nI n_3) &&& (set ^^^ (-1 : Int32))) = 0 then (L_X1_leastInOrder_3 td dy set aa n_3 (upd wlb0_3 n_3 (if nI n_3 = set then nI 0 else (f_X1_leastOfRest td dy wlb0_3 set (nI n_3) aa)))) else (L_X1_leastInOrder_3 td dy set aa n_3 wlb0_3))
def f_X1_leastInOrder (td : XTd) (dy : XDy) (lb : (Nat → Int32)) (set : Int32) (aa : Int32) : Int32 × (Nat → Int32) := (((L_X1_leastInOrder_3 td dy set aa 64 lb) 0), (L_X1_leastInOrder_3 td dy set aa 64 lb))
abbrev rm_X1_leastInOrder : Room := { frames := 5, cells := 0, slots := 0, locals := 123 }
set_option maxHeartbeats 4000000 in
set_option maxRecDepth 100000 in
theorem c_X1_leastInOrder (l : Launch) (D : va_G) (cI cL cZ : ClassId) (ad : Nat → Nat) (A : Nat → Prop) (tx : XTx) (td : XTd) (dr : XTd) (dy : XDy) (lb : (Nat → Int32)) (pn : (Nat × Nat)) (ps : XSh) (ks : XSh) (si : XSi) (kb : Int32) (set : Int32) (aa : Int32) (hpe : td.2.2.2.2.2.1 ≤ 6) : Met l yX1_leastInOrder wsX1_leastInOrder rm_X1_leastInOrder (va_Pc [.ref (ad 18), .int set, .int aa] (sR D cI cL cZ A (xW cI cL cZ ad tx td dr dy lb pn ps ks si kb))) (va_Qi (fun (r : Int32) (u : (Nat → Int32)) => r = (f_X1_leastInOrder td dy lb set aa).1 ∧ u = (f_X1_leastInOrder td dy lb set aa).2) (fun (u : (Nat → Int32)) t => va_P D vwCl (xW cI cL cZ ad tx td dr dy u pn ps ks si kb) t.heap) A) 0 0 A := by
  refine Met.ofW (cc := cX1_leastInOrder) (maxL := 4) (ret := (some .int)) (by decide) rfl ?_
  intro p e s m args below meth c s₁ B hml hv
  obtain ⟨rfl, hP, hK, hD, hE⟩ := hv
  have hx := B.exec
  have hb := B.bytes
  have hr := B.returns
  have hts := atoms_spec (ws := wsX1_leastInOrder) B.pre
  have hown : s.vm.findClass RX1 = some m.cls := findClass_of_methodNamed B.named
  have hlocks := B.notSynchronized
  have hS : va_S A s.heap s.heap [] := va_S.rf
  have hl := lv_entry ([.ref (ad 18), .int set, .int aa]) (n := 4) (Nat.le_of_ble_eq_true rfl)
  rw [lg_entry_eq]
  generalize (lg_sl ([.ref (ad 18), .int set, .int aa]) ++ List.replicate (4 - (lg_sl ([.ref (ad 18), .int set, .int aa])).length) Slot.unset).toArray = ls at hl ⊢
  have hl : lv_has ls 4 [(0, .ref (ad 18)), (1, .int set), (2, .int aa)] := hl
  obtain ⟨Q, hQe⟩ : ∃ Q, Q = MQ below (va_Qi (fun (r : Int32) (u : (Nat → Int32)) => r = (f_X1_leastInOrder td dy lb set aa).1 ∧ u = (f_X1_leastInOrder td dy lb set aa).2) (fun (u : (Nat → Int32)) t => va_P D vwCl (xW cI cL cZ ad tx td dr dy u pn ps ks si kb) t.heap) A) ([.ref (ad 18), .int set, .int aa] : List Value).toArray s 0 0 A := ⟨_, rfl⟩
  show W p l e (headSpec wsX1_leastInOrder rm_X1_leastInOrder).room s m ([.ref (ad 18), .int set, .int aa] : List Value).toArray below meth c s.heap [] 0 0 (MQ below (va_Qi (fun (r : Int32) (u : (Nat → Int32)) => r = (f_X1_leastInOrder td dy lb set aa).1 ∧ u = (f_X1_leastInOrder td dy lb set aa).2) (fun (u : (Nat → Int32)) t => va_P D vwCl (xW cI cL cZ ad tx td dr dy u pn ps ks si kb) t.heap) A) ([.ref (ad 18), .int set, .int aa] : List Value).toArray s 0 0 A) (F0 m 0 ls [])
  rw [← hQe]
  refine lv_bipush (v := nI 63) hx hb dX1_leastInOrder_0 rfl ?_
  refine lv_istore_n (lv' := [(3, .int (nI 63)), (0, .ref (ad 18)), (1, .int set), (2, .int aa)]) hx hb dX1_leastInOrder_2 rfl hl (by decide) rfl (fun ls hl => ?_)
  obtain ⟨T_3_1, hT_3_1⟩ : ∃ z, z = (L_X1_leastInOrder_3 td dy set aa 64 lb) := ⟨_, rfl⟩
  have hexit_3 : ∀ (H : Heap) (locs : List Loc) (ls : Array Slot), va_P D vwCl (xW cI cL cZ ad tx td dr dy T_3_1 pn ps ks si kb) H → va_S A s.heap H locs → lv_has ls 4 [(0, .ref (ad 18)), (1, .int set), (2, .int aa)] → W p l e (headSpec wsX1_leastInOrder rm_X1_leastInOrder).room s m ([.ref (ad 18), .int set, .int aa] : List Value).toArray below meth c H locs 0 0 Q (F0 m 43 ls []) := by
    intro H locs ls hP hS hl
    have hD : va_D A (xW cI cL cZ ad tx td dr dy T_3_1 pn ps ks si kb) := xW_D hD
    refine lv_aload_n hx hb dX1_leastInOrder_43 rfl (lv_at hl 0 rfl) ?_
    refine va_get (D := D) (ci := 1) (v := .ref (ad 19)) (C := RX1) (T := TX1) (N := 3) hx hb hts (by decide +kernel) hown hK hP 18 rfl rfl 2 (by decide) (hts (.fieldLink RX1 9 "SummitTime$Ledger" "leastBehind" "[I") (by decide +kernel)) (fun _ h9 => h9) rfl dX1_leastInOrder_44 ?_
    refine lv_iconst (v := nI 0) hx hb dX1_leastInOrder_47 rfl ?_
    refine mv_iald (f := T_3_1) hx hb hK hP 19 0 rfl rfl (by decide) (by decide) dX1_leastInOrder_48 ?_
    subst hQe
    have hf : (f_X1_leastInOrder td dy lb set aa) = ((T_3_1 0), T_3_1) := by rw [f_X1_leastInOrder]; (try rw [← hT_3_1]); first | done | rfl
    have hf1 : (T_3_1 0) = (f_X1_leastInOrder td dy lb set aa).1 := by rw [hf]
    have hf2 : T_3_1 = (f_X1_leastInOrder td dy lb set aa).2 := by rw [hf]
    exact W.iret (v := (T_3_1 0)) hx hb hr (fun t ht hW => ⟨⟨(T_3_1 0), T_3_1, rfl, ⟨hf1, hf2⟩, va_Pt ht hP⟩, hS.F ht⟩) hS.2.2 dX1_leastInOrder_49
  have loop_3 : ∀ (n_3 : Nat) (wlb0_3 : Nat → Int32), (n_3 ≤ 64) → L_X1_leastInOrder_3 td dy set aa n_3 wlb0_3 = T_3_1 → ∀ (H : Heap) (locs : List Loc) (ls : Array Slot), va_P D vwCl (xW cI cL cZ ad tx td dr dy wlb0_3 pn ps ks si kb) H → va_S A s.heap H locs → lv_has ls 4 [(3, .int (nI n_3 - 1)), (0, .ref (ad 18)), (1, .int set), (2, .int aa)] → W p l e (headSpec wsX1_leastInOrder rm_X1_leastInOrder).room s m ([.ref (ad 18), .int set, .int aa] : List Value).toArray below meth c H locs 0 0 Q (F0 m 3 ls []) := by
    intro n_3
    induction n_3 with
    | zero =>
      intro wlb0_3 hd hL_3 H locs ls hP hS hl
      have hD : va_D A (xW cI cL cZ ad tx td dr dy wlb0_3 pn ps ks si kb) := xW_D hD
      rw [show nI 0 - 1 = (-1 : Int32) by decide] at hl
      refine lv_iload_n hx hb dX1_leastInOrder_3 rfl (lv_at hl 0 rfl) ?_
      refine lv_if_lt (tgt := 43) hx hb dX1_leastInOrder_4 (by decide) (fun c_4 => ?_) (fun c_4 => absurd c_4 (by decide))
      have e9 : T_3_1 = wlb0_3 := by rw [← hL_3, L_X1_leastInOrder_3]
      have hq := hexit_3
      rw [e9] at hq
      exact hq _ _ ls  hP hS (lv_sub hl [1, 2, 3] rfl)
    | succ n_3 ih_3 =>
      intro wlb0_3 hd hL_3 H locs ls hP hS hl
      have hD : va_D A (xW cI cL cZ ad tx td dr dy wlb0_3 pn ps ks si kb) := xW_D hD
      rw [nI_pred] at hl
      refine lv_iload_n hx hb dX1_leastInOrder_3 rfl (lv_at hl 0 rfl) ?_
      refine mv_if_lt (tgt := 43) hx hb dX1_leastInOrder_4 (by decide) (by omega) ?_
      refine lv_iload_n hx hb dX1_leastInOrder_7 rfl (lv_at hl 0 rfl) ?_
      refine lv_iload_n hx hb dX1_leastInOrder_8 rfl (lv_at hl 2 rfl) ?_
      refine lv_iconst (v := (-1)) hx hb dX1_leastInOrder_9 rfl ?_
      refine lv_ixor hx hb dX1_leastInOrder_10 ?_
      refine lv_iand hx hb dX1_leastInOrder_11 ?_
      refine lv_if_ne (tgt := 37) hx hb dX1_leastInOrder_12 (by decide) (fun c_1 => ?_) (fun c_1 => ?_)
      · refine lv_iinc (v := nI n_3 - 1) (lv' := [(3, .int (nI n_3 - 1)), (0, .ref (ad 18)), (1, .int set), (2, .int aa)]) hx hb dX1_leastInOrder_37 hl (k := 0) rfl (nI_dn _) (by decide) rfl (fun ls hl => ?_)
        refine lv_goto (tgt := 3) hx hb dX1_leastInOrder_40 (by decide) ?_
        exact ih_3 wlb0_3 (by omega) (by have e9 := hL_3; rw [L_X1_leastInOrder_3, if_neg c_1] at e9; exact e9) _ _ ls hP hS (lv_sub hl [0, 1, 2, 3] rfl)
      · refine lv_aload_n hx hb dX1_leastInOrder_15 rfl (lv_at hl 1 rfl) ?_
        refine va_get (D := D) (ci := 1) (v := .ref (ad 19)) (C := RX1) (T := TX1) (N := 3) hx hb hts (by decide +kernel) hown hK hP 18 rfl rfl 2 (by decide) (hts (.fieldLink RX1 9 "SummitTime$Ledger" "leastBehind" "[I") (by decide +kernel)) (fun _ h9 => h9) rfl dX1_leastInOrder_16 ?_
        refine lv_iload_n hx hb dX1_leastInOrder_19 rfl (lv_at hl 0 rfl) ?_
        refine lv_iload_n hx hb dX1_leastInOrder_20 rfl (lv_at hl 0 rfl) ?_
        refine lv_iload_n hx hb dX1_leastInOrder_21 rfl (lv_at hl 2 rfl) ?_
        refine mv_phi (v := (if nI n_3 = set then nI 0 else (f_X1_leastOfRest td dy wlb0_3 set (nI n_3) aa))) (pcj := 36) (ls := ls) (rest' := [.int (nI n_3), .ref (ad 19)]) ?_ (fun J_2 => ?_)
        · refine mv_iast (f := wlb0_3) hx hb hK hP hD hS 19 0 rfl rfl (by omega) (by decide) dX1_leastInOrder_36 (fun H locs hP hD hS => ?_)
          have hP : va_P D vwCl (xW cI cL cZ ad tx td dr dy (upd wlb0_3 n_3 (if nI n_3 = set then nI 0 else (f_X1_leastOfRest td dy wlb0_3 set (nI n_3) aa))) pn ps ks si kb) H := hP
          have hD : va_D A (xW cI cL cZ ad tx td dr dy (upd wlb0_3 n_3 (if nI n_3 = set then nI 0 else (f_X1_leastOfRest td dy wlb0_3 set (nI n_3) aa))) pn ps ks si kb) := hD
          refine lv_iinc (v := nI n_3 - 1) (lv' := [(3, .int (nI n_3 - 1)), (0, .ref (ad 18)), (1, .int set), (2, .int aa)]) hx hb dX1_leastInOrder_37 hl (k := 0) rfl (nI_dn _) (by decide) rfl (fun ls hl => ?_)
          refine lv_goto (tgt := 3) hx hb dX1_leastInOrder_40 (by decide) ?_
          exact ih_3 (upd wlb0_3 n_3 (if nI n_3 = set then nI 0 else (f_X1_leastOfRest td dy wlb0_3 set (nI n_3) aa))) (by omega) (by have e9 := hL_3; rw [L_X1_leastInOrder_3, if_pos c_1] at e9; exact e9) _ _ ls hP hS (lv_sub hl [0, 1, 2, 3] rfl)
        · refine lv_icmp_ne (tgt := 29) hx hb dX1_leastInOrder_22 (by decide) (fun c_3 => ?_) (fun c_3 => ?_)
          · refine lv_aload_n hx hb dX1_leastInOrder_29 rfl (lv_at hl 1 rfl) ?_
            refine lv_iload_n hx hb dX1_leastInOrder_30 rfl (lv_at hl 2 rfl) ?_
            refine lv_iload_n hx hb dX1_leastInOrder_31 rfl (lv_at hl 0 rfl) ?_
            refine lv_iload_n hx hb dX1_leastInOrder_32 rfl (lv_at hl 3 rfl) ?_
            refine vp_callSi (va_Run.run (va_runV (As := [.int set, .int (nI n_3), .int aa]) (rest := [.int (nI n_3), .ref (ad 19)]) ⟨hx, hb, hml, hown, hts⟩ (c_X1_leastOfRest l D cI cL cZ ad A tx td dr dy wlb0_3 pn ps ks si kb set (nI n_3) aa (by first | assumption | omega)) (cwV 3 hts gX1_leastInOrder_X1_leastOfRest rfl rfl rfl (by decide +kernel) ⟨Nat.le_of_ble_eq_true rfl, Nat.le_of_ble_eq_true rfl⟩) ⟨sR_fb, va_recv hK hP (ci := 1) (q0 := 18) rfl rfl, sR_at hP hK hD hE⟩ rfl rfl hl.1 rfl (lv_room (Nat.le_of_ble_eq_true rfl)) dX1_leastInOrder_33 ⟨Nat.zero_le _, Nat.zero_le _⟩)) (fun r hr => ?_)
            subst hr
            exact J_2 _ (by rw [if_neg c_3])
          · refine lv_iconst (v := nI 0) hx hb dX1_leastInOrder_25 rfl ?_
            refine lv_goto (tgt := 36) hx hb dX1_leastInOrder_26 (by decide) ?_
            exact J_2 _ (by rw [if_pos c_3])
  exact loop_3 64 lb (by omega) hT_3_1.symm _ _ ls hP hS (by have h9 := lv_sub hl [0, 1, 2, 3] rfl; rw [show (nI 63 : Int32) = nI 64 - 1 from rfl] at h9; exact h9)
def L_X1_nextInOrder_23 (td : XTd) (dy : XDy) (lb : (Nat → Int32)) (set : Int32) (go : Int32) (aa : Int32) : Nat → Nat → Int32
  | 0, _ => (-1 : Int32)
  | n_23 + 1, k_23 => (if (if ((set &&& (go ^^^ (-1 : Int32))) &&& ((nI 1) <<< ((nI k_23) &&& 31))) = 0 then nI 0 else nI 1) = 0 then (L_X1_nextInOrder_23 td dy lb set go aa n_23 (k_23 + 1)) else (if (f_X1_leastWithNext td dy lb go (nI k_23) (f_X1_startBehind td dy go aa)) = (lb go.toNatClampNeg) then nI k_23 else (L_X1_nextInOrder_23 td dy lb set go aa n_23 (k_23 + 1))))
def f_X1_nextInOrder (td : XTd) (dy : XDy) (lb : (Nat → Int32)) (set : Int32) (go : Int32) (aa : Int32) : Int32 := (if go < 0 then (-1 : Int32) else (if go < nI 64 then (L_X1_nextInOrder_23 td dy lb set go aa td.2.2.2.2.2.1 0) else (-1 : Int32)))
abbrev rm_X1_nextInOrder : Room := { frames := 4, cells := 0, slots := 0, locals := 96 }
set_option maxHeartbeats 4000000 in
set_option maxRecDepth 100000 in
theorem c_X1_nextInOrder (l : Launch) (D : va_G) (cI cL cZ : ClassId) (ad : Nat → Nat) (A : Nat → Prop) (tx : XTx) (td : XTd) (dr : XTd) (dy : XDy) (lb : (Nat → Int32)) (pn : (Nat × Nat)) (ps : XSh) (ks : XSh) (si : XSi) (kb : Int32) (set : Int32) (go : Int32) (aa : Int32) (hpe : td.2.2.2.2.2.1 ≤ 6) : Met l yX1_nextInOrder wsX1_nextInOrder rm_X1_nextInOrder (va_Pc [.ref (ad 18), .int set, .int go, .int aa] (sR D cI cL cZ A (xW cI cL cZ ad tx td dr dy lb pn ps ks si kb))) (vp_Si (fun r => r = (f_X1_nextInOrder td dy lb set go aa))) 0 0 (fun _ => False) := by
  refine Met.ofW (cc := cX1_nextInOrder) (maxL := 7) (ret := (some .int)) (by decide) rfl ?_
  intro p e s m args below meth c s₁ B hml hv
  obtain ⟨rfl, hP, hK, hD, hE⟩ := hv
  have hx := B.exec
  have hb := B.bytes
  have hr := B.returns
  have hts := atoms_spec (ws := wsX1_nextInOrder) B.pre
  have hown : s.vm.findClass RX1 = some m.cls := findClass_of_methodNamed B.named
  have hlocks := B.notSynchronized
  have hl := lv_entry ([.ref (ad 18), .int set, .int go, .int aa]) (n := 7) (Nat.le_of_ble_eq_true rfl)
  rw [lg_entry_eq]
  generalize (lg_sl ([.ref (ad 18), .int set, .int go, .int aa]) ++ List.replicate (7 - (lg_sl ([.ref (ad 18), .int set, .int go, .int aa])).length) Slot.unset).toArray = ls at hl ⊢
  have hl : lv_has ls 7 [(0, .ref (ad 18)), (1, .int set), (2, .int go), (3, .int aa)] := hl
  obtain ⟨Q, hQe⟩ : ∃ Q, Q = MQ below (vp_Si (fun r => r = (f_X1_nextInOrder td dy lb set go aa))) ([.ref (ad 18), .int set, .int go, .int aa] : List Value).toArray s 0 0 (fun _ => False) := ⟨_, rfl⟩
  show W p l e (headSpec wsX1_nextInOrder rm_X1_nextInOrder).room s m ([.ref (ad 18), .int set, .int go, .int aa] : List Value).toArray below meth c s.heap [] 0 0 (MQ below (vp_Si (fun r => r = (f_X1_nextInOrder td dy lb set go aa))) ([.ref (ad 18), .int set, .int go, .int aa] : List Value).toArray s 0 0 (fun _ => False)) (F0 m 0 ls [])
  rw [← hQe]
  obtain ⟨RES, hRES⟩ : ∃ z, z = (f_X1_nextInOrder td dy lb set go aa) := ⟨_, rfl⟩
  refine lv_iload_n hx hb dX1_nextInOrder_0 rfl (lv_at hl 2 rfl) ?_
  refine lv_if_lt (tgt := 10) hx hb dX1_nextInOrder_1 (by decide) (fun c_1 => ?_) (fun c_1 => ?_)
  · refine lv_iconst (v := (-1)) hx hb dX1_nextInOrder_10 rfl ?_
    subst hQe
    have hf : (f_X1_nextInOrder td dy lb set go aa) = (-1 : Int32) := by rw [f_X1_nextInOrder, if_pos c_1]
    exact W.iret (v := (-1 : Int32)) hx hb hr (fun t ht hW => ⟨(-1 : Int32), rfl, hf.symm, ht⟩) (fun _ h => by cases h) dX1_nextInOrder_11
  · refine lv_iload_n hx hb dX1_nextInOrder_4 rfl (lv_at hl 2 rfl) ?_
    refine lv_bipush (v := nI 64) hx hb dX1_nextInOrder_5 rfl ?_
    refine lv_icmp_lt (tgt := 12) hx hb dX1_nextInOrder_7 (by decide) (fun c_2 => ?_) (fun c_2 => ?_)
    · refine lv_aload_n hx hb dX1_nextInOrder_12 rfl (lv_at hl 0 rfl) ?_
      refine lv_iload_n hx hb dX1_nextInOrder_13 rfl (lv_at hl 2 rfl) ?_
      refine lv_iload_n hx hb dX1_nextInOrder_14 rfl (lv_at hl 3 rfl) ?_
      refine vp_callSi (va_Run.run (va_runV (As := [.int go, .int aa]) (rest := []) ⟨hx, hb, hml, hown, hts⟩ (c_X1_startBehind l D cI cL cZ ad A tx td dr dy lb pn ps ks si kb go aa (by first | assumption | omega)) (cwV 2 hts gX1_nextInOrder_X1_startBehind rfl rfl rfl (by decide +kernel) ⟨Nat.le_of_ble_eq_true rfl, Nat.le_of_ble_eq_true rfl⟩) ⟨sR_fb, va_recv hK hP (ci := 1) (q0 := 18) rfl rfl, sR_at hP hK hD hE⟩ rfl rfl hl.1 rfl (lv_room (Nat.le_of_ble_eq_true rfl)) dX1_nextInOrder_15 ⟨Nat.zero_le _, Nat.zero_le _⟩)) (fun r hr => ?_)
      subst hr
      refine lv_istore (lv' := [(4, .int (f_X1_startBehind td dy go aa)), (0, .ref (ad 18)), (1, .int set), (2, .int go), (3, .int aa)]) hx hb dX1_nextInOrder_18 hl (by decide) rfl (fun ls hl => ?_)
      refine lv_iconst (v := nI 0) hx hb dX1_nextInOrder_20 rfl ?_
      refine lv_istore (lv' := [(5, .int (nI 0)), (4, .int (f_X1_startBehind td dy go aa)), (0, .ref (ad 18)), (1, .int set), (2, .int go), (3, .int aa)]) hx hb dX1_nextInOrder_21 hl (by decide) rfl (fun ls hl => ?_)
      have loop_23 : ∀ (n_23 : Nat) (k_23 : Nat) , (k_23 + n_23 = td.2.2.2.2.2.1) → L_X1_nextInOrder_23 td dy lb set go aa n_23 k_23 = RES → ∀ (ls : Array Slot), lv_has ls 7 [(5, .int (nI k_23)), (4, .int (f_X1_startBehind td dy go aa)), (0, .ref (ad 18)), (1, .int set), (2, .int go), (3, .int aa)] → W p l e (headSpec wsX1_nextInOrder rm_X1_nextInOrder).room s m ([.ref (ad 18), .int set, .int go, .int aa] : List Value).toArray below meth c s.heap [] 0 0 Q (F0 m 23 ls []) := by
        intro n_23
        induction n_23 with
        | zero =>
          intro k_23 hk_23 hL_23 ls hl
          refine lv_iload hx hb dX1_nextInOrder_23 (lv_at hl 0 rfl) ?_
          refine lv_aload_n hx hb dX1_nextInOrder_25 rfl (lv_at hl 2 rfl) ?_
          refine va_get (D := D) (ci := 1) (v := .ref (ad 3)) (C := RX1) (T := TX1) (N := 3) hx hb hts (by decide +kernel) hown hK hP 18 rfl rfl 0 (by decide) (hts (.fieldLink RX1 15 "SummitTime$Ledger" "told" "LSummitTime$Told;") (by decide +kernel)) (fun _ h9 => h9) rfl dX1_nextInOrder_26 ?_
          refine va_getN (D := D) (ci := 6) (v := .int (nI td.2.2.2.2.2.1)) (C := RX6) (T := TX6) (N := 7) hx hb hts (by decide +kernel) hown hK hP 3 rfl rfl 5 (by decide) (va_Nw.use rfl hE.2.2.1) (fun _ h9 => h9) rfl dX1_nextInOrder_29 ?_
          refine mv_icmp_ge (tgt := 87) hx hb dX1_nextInOrder_32 (by decide) (by omega) (by omega) (fun c_8 => ?_) (fun c_8 => (by omega : False).elim)
          refine lv_iconst (v := (-1)) hx hb dX1_nextInOrder_87 rfl ?_
          subst hQe
          have hf : (f_X1_nextInOrder td dy lb set go aa) = (-1 : Int32) := by rw [← hRES, ← hL_23, L_X1_nextInOrder_23]
          exact W.iret (v := (-1 : Int32)) hx hb hr (fun t ht hW => ⟨(-1 : Int32), rfl, hf.symm, ht⟩) (fun _ h => by cases h) dX1_nextInOrder_88
        | succ n_23 ih_23 =>
          intro k_23 hk_23 hL_23 ls hl
          refine lv_iload hx hb dX1_nextInOrder_23 (lv_at hl 0 rfl) ?_
          refine lv_aload_n hx hb dX1_nextInOrder_25 rfl (lv_at hl 2 rfl) ?_
          refine va_get (D := D) (ci := 1) (v := .ref (ad 3)) (C := RX1) (T := TX1) (N := 3) hx hb hts (by decide +kernel) hown hK hP 18 rfl rfl 0 (by decide) (hts (.fieldLink RX1 15 "SummitTime$Ledger" "told" "LSummitTime$Told;") (by decide +kernel)) (fun _ h9 => h9) rfl dX1_nextInOrder_26 ?_
          refine va_getN (D := D) (ci := 6) (v := .int (nI td.2.2.2.2.2.1)) (C := RX6) (T := TX6) (N := 7) hx hb hts (by decide +kernel) hown hK hP 3 rfl rfl 5 (by decide) (va_Nw.use rfl hE.2.2.1) (fun _ h9 => h9) rfl dX1_nextInOrder_29 ?_
          refine mv_icmp_ge (tgt := 87) hx hb dX1_nextInOrder_32 (by decide) (by omega) (by omega) (fun c_3 => (by omega : False).elim) (fun c_3 => ?_)
          refine lv_iload_n hx hb dX1_nextInOrder_35 rfl (lv_at hl 3 rfl) ?_
          refine lv_iload_n hx hb dX1_nextInOrder_36 rfl (lv_at hl 4 rfl) ?_
          refine lv_iconst (v := (-1)) hx hb dX1_nextInOrder_37 rfl ?_
          refine lv_ixor hx hb dX1_nextInOrder_38 ?_
          refine lv_iand hx hb dX1_nextInOrder_39 ?_
          refine lv_iconst (v := nI 1) hx hb dX1_nextInOrder_40 rfl ?_
          refine lv_iload hx hb dX1_nextInOrder_41 (lv_at hl 0 rfl) ?_
          refine lv_ishl hx hb dX1_nextInOrder_43 ?_
          refine lv_iand hx hb dX1_nextInOrder_44 ?_
          refine mv_phi (v := (if ((set &&& (go ^^^ (-1 : Int32))) &&& ((nI 1) <<< ((nI k_23) &&& 31))) = 0 then nI 0 else nI 1)) (pcj := 53) (ls := ls) (rest' := []) ?_ (fun J_6 => ?_)
          · refine lv_istore (lv' := [(6, .int (if ((set &&& (go ^^^ (-1 : Int32))) &&& ((nI 1) <<< ((nI k_23) &&& 31))) = 0 then nI 0 else nI 1)), (5, .int (nI k_23)), (4, .int (f_X1_startBehind td dy go aa)), (0, .ref (ad 18)), (1, .int set), (2, .int go), (3, .int aa)]) hx hb dX1_nextInOrder_53 hl (by decide) rfl (fun ls hl => ?_)
            refine lv_iload hx hb dX1_nextInOrder_55 (lv_at hl 0 rfl) ?_
            refine lv_if_eq (tgt := 81) hx hb dX1_nextInOrder_57 (by decide) (fun c_4 => ?_) (fun c_4 => ?_)
            · refine mv_iinc (y := k_23 + 1) (lv' := [(5, .int (nI (k_23 + 1))), (6, .int (if ((set &&& (go ^^^ (-1 : Int32))) &&& ((nI 1) <<< ((nI k_23) &&& 31))) = 0 then nI 0 else nI 1)), (4, .int (f_X1_startBehind td dy go aa)), (0, .ref (ad 18)), (1, .int set), (2, .int go), (3, .int aa)]) hx hb dX1_nextInOrder_81 hl (k := 1) rfl (nI_p1 _) (by decide) rfl (fun ls hl => ?_)
              refine lv_goto (tgt := 23) hx hb dX1_nextInOrder_84 (by decide) ?_
              exact ih_23 (k_23 + 1)  (by omega) (by have e9 := hL_23; rw [L_X1_nextInOrder_23, if_pos c_4] at e9; exact e9) ls (lv_sub hl [0, 2, 3, 4, 5, 6] rfl)
            · refine lv_aload_n hx hb dX1_nextInOrder_60 rfl (lv_at hl 3 rfl) ?_
              refine lv_iload_n hx hb dX1_nextInOrder_61 rfl (lv_at hl 5 rfl) ?_
              refine lv_iload hx hb dX1_nextInOrder_62 (lv_at hl 1 rfl) ?_
              refine lv_iload hx hb dX1_nextInOrder_64 (lv_at hl 2 rfl) ?_
              refine vp_callSi (va_Run.run (va_runV (As := [.int go, .int (nI k_23), .int (f_X1_startBehind td dy go aa)]) (rest := []) ⟨hx, hb, hml, hown, hts⟩ (c_X1_leastWithNext l D cI cL cZ ad A tx td dr dy lb pn ps ks si kb go (nI k_23) (f_X1_startBehind td dy go aa) (by first | assumption | omega)) (cwV 3 hts gX1_nextInOrder_X1_leastWithNext rfl rfl rfl (by decide +kernel) ⟨Nat.le_of_ble_eq_true rfl, Nat.le_of_ble_eq_true rfl⟩) ⟨sR_fb, va_recv hK hP (ci := 1) (q0 := 18) rfl rfl, sR_at hP hK hD hE⟩ rfl rfl hl.1 rfl (lv_room (Nat.le_of_ble_eq_true rfl)) dX1_nextInOrder_66 ⟨Nat.zero_le _, Nat.zero_le _⟩)) (fun r hr => ?_)
              subst hr
              refine lv_aload_n hx hb dX1_nextInOrder_69 rfl (lv_at hl 3 rfl) ?_
              refine va_get (D := D) (ci := 1) (v := .ref (ad 19)) (C := RX1) (T := TX1) (N := 3) hx hb hts (by decide +kernel) hown hK hP 18 rfl rfl 2 (by decide) (hts (.fieldLink RX1 9 "SummitTime$Ledger" "leastBehind" "[I") (by decide +kernel)) (fun _ h9 => h9) rfl dX1_nextInOrder_70 ?_
              refine lv_iload_n hx hb dX1_nextInOrder_73 rfl (lv_at hl 5 rfl) ?_
              refine va_iald (f := lb) hx hb hK hP 19 0 rfl rfl (ix_l 64 (by decide) (by decide) c_1 c_2) dX1_nextInOrder_74 ?_
              refine lv_icmp_ne (tgt := 81) hx hb dX1_nextInOrder_75 (by decide) (fun c_5 => ?_) (fun c_5 => ?_)
              · refine mv_iinc (y := k_23 + 1) (lv' := [(5, .int (nI (k_23 + 1))), (6, .int (if ((set &&& (go ^^^ (-1 : Int32))) &&& ((nI 1) <<< ((nI k_23) &&& 31))) = 0 then nI 0 else nI 1)), (4, .int (f_X1_startBehind td dy go aa)), (0, .ref (ad 18)), (1, .int set), (2, .int go), (3, .int aa)]) hx hb dX1_nextInOrder_81 hl (k := 1) rfl (nI_p1 _) (by decide) rfl (fun ls hl => ?_)
                refine lv_goto (tgt := 23) hx hb dX1_nextInOrder_84 (by decide) ?_
                exact ih_23 (k_23 + 1)  (by omega) (by have e9 := hL_23; rw [L_X1_nextInOrder_23, if_neg c_4, if_neg c_5] at e9; exact e9) ls (lv_sub hl [0, 2, 3, 4, 5, 6] rfl)
              · refine lv_iload hx hb dX1_nextInOrder_78 (lv_at hl 1 rfl) ?_
                subst hQe
                have hf : (f_X1_nextInOrder td dy lb set go aa) = nI k_23 := by rw [← hRES, ← hL_23, L_X1_nextInOrder_23, if_neg c_4, if_pos c_5]
                exact W.iret (v := nI k_23) hx hb hr (fun t ht hW => ⟨nI k_23, rfl, hf.symm, ht⟩) (fun _ h => by cases h) dX1_nextInOrder_80
          · refine lv_if_eq (tgt := 52) hx hb dX1_nextInOrder_45 (by decide) (fun c_7 => ?_) (fun c_7 => ?_)
            · refine lv_iconst (v := nI 0) hx hb dX1_nextInOrder_52 rfl ?_
              exact J_6 _ (by rw [if_pos c_7])
            · refine lv_iconst (v := nI 1) hx hb dX1_nextInOrder_48 rfl ?_
              refine lv_goto (tgt := 53) hx hb dX1_nextInOrder_49 (by decide) ?_
              exact J_6 _ (by rw [if_neg c_7])
      exact loop_23 td.2.2.2.2.2.1 0 (by omega) (by rw [hRES, f_X1_nextInOrder, if_neg c_1, if_pos c_2]) ls (lv_sub hl [0, 1, 2, 3, 4, 5] rfl)
    · refine lv_iconst (v := (-1)) hx hb dX1_nextInOrder_10 rfl ?_
      subst hQe
      have hf : (f_X1_nextInOrder td dy lb set go aa) = (-1 : Int32) := by rw [f_X1_nextInOrder, if_neg c_1, if_neg c_2]
      exact W.iret (v := (-1 : Int32)) hx hb hr (fun t ht hW => ⟨(-1 : Int32), rfl, hf.symm, ht⟩) (fun _ h => by cases h) dX1_nextInOrder_11
def L_X1_placeInOrder_9 (td : XTd) (dy : XDy) (lb : (Nat → Int32)) (set : Int32) (aa : Int32) : Nat → Nat → Int32 → Int32 → Int32
  | 0, _, x5_9, _ => x5_9
  | n_9 + 1, k_9, x5_9, x4_9 => (if (f_X1_nextInOrder td dy lb set x4_9 aa) = (-1 : Int32) then (-1 : Int32) else (L_X1_placeInOrder_9 td dy lb set aa n_9 (k_9 + 1) (f_X1_nextInOrder td dy lb set x4_9 aa) (x4_9 ||| ((nI 1) <<< ((f_X1_nextInOrder td dy lb set x4_9 aa) &&& 31)))))
def f_X1_placeInOrder (td : XTd) (dy : XDy) (lb : (Nat → Int32)) (set : Int32) (aa : Int32) (pl : Nat) : Int32 := (L_X1_placeInOrder_9 td dy lb set aa pl 0 (-1 : Int32) (nI 0))
abbrev rm_X1_placeInOrder : Room := { frames := 5, cells := 0, slots := 0, locals := 122 }
set_option maxHeartbeats 4000000 in
set_option maxRecDepth 100000 in
theorem c_X1_placeInOrder (l : Launch) (D : va_G) (cI cL cZ : ClassId) (ad : Nat → Nat) (A : Nat → Prop) (tx : XTx) (td : XTd) (dr : XTd) (dy : XDy) (lb : (Nat → Int32)) (pn : (Nat × Nat)) (ps : XSh) (ks : XSh) (si : XSi) (kb : Int32) (set : Int32) (aa : Int32) (pl : Nat) (hpe : td.2.2.2.2.2.1 ≤ 6) (hpl : pl ≤ 6) : Met l yX1_placeInOrder wsX1_placeInOrder rm_X1_placeInOrder (va_Pc [.ref (ad 18), .int set, .int aa, .int (nI pl)] (sR D cI cL cZ A (xW cI cL cZ ad tx td dr dy lb pn ps ks si kb))) (vp_Si (fun r => r = (f_X1_placeInOrder td dy lb set aa pl))) 0 0 (fun _ => False) := by
  refine Met.ofW (cc := cX1_placeInOrder) (maxL := 7) (ret := (some .int)) (by decide) rfl ?_
  intro p e s m args below meth c s₁ B hml hv
  obtain ⟨rfl, hP, hK, hD, hE⟩ := hv
  have hx := B.exec
  have hb := B.bytes
  have hr := B.returns
  have hts := atoms_spec (ws := wsX1_placeInOrder) B.pre
  have hown : s.vm.findClass RX1 = some m.cls := findClass_of_methodNamed B.named
  have hlocks := B.notSynchronized
  have hl := lv_entry ([.ref (ad 18), .int set, .int aa, .int (nI pl)]) (n := 7) (Nat.le_of_ble_eq_true rfl)
  rw [lg_entry_eq]
  generalize (lg_sl ([.ref (ad 18), .int set, .int aa, .int (nI pl)]) ++ List.replicate (7 - (lg_sl ([.ref (ad 18), .int set, .int aa, .int (nI pl)])).length) Slot.unset).toArray = ls at hl ⊢
  have hl : lv_has ls 7 [(0, .ref (ad 18)), (1, .int set), (2, .int aa), (3, .int (nI pl))] := hl
  obtain ⟨Q, hQe⟩ : ∃ Q, Q = MQ below (vp_Si (fun r => r = (f_X1_placeInOrder td dy lb set aa pl))) ([.ref (ad 18), .int set, .int aa, .int (nI pl)] : List Value).toArray s 0 0 (fun _ => False) := ⟨_, rfl⟩
  show W p l e (headSpec wsX1_placeInOrder rm_X1_placeInOrder).room s m ([.ref (ad 18), .int set, .int aa, .int (nI pl)] : List Value).toArray below meth c s.heap [] 0 0 (MQ below (vp_Si (fun r => r = (f_X1_placeInOrder td dy lb set aa pl))) ([.ref (ad 18), .int set, .int aa, .int (nI pl)] : List Value).toArray s 0 0 (fun _ => False)) (F0 m 0 ls [])
  rw [← hQe]
  obtain ⟨RES, hRES⟩ : ∃ z, z = (f_X1_placeInOrder td dy lb set aa pl) := ⟨_, rfl⟩
  refine lv_iconst (v := nI 0) hx hb dX1_placeInOrder_0 rfl ?_
  refine lv_istore (lv' := [(4, .int (nI 0)), (0, .ref (ad 18)), (1, .int set), (2, .int aa), (3, .int (nI pl))]) hx hb dX1_placeInOrder_1 hl (by decide) rfl (fun ls hl => ?_)
  refine lv_iconst (v := (-1)) hx hb dX1_placeInOrder_3 rfl ?_
  refine lv_istore (lv' := [(5, .int (-1 : Int32)), (4, .int (nI 0)), (0, .ref (ad 18)), (1, .int set), (2, .int aa), (3, .int (nI pl))]) hx hb dX1_placeInOrder_4 hl (by decide) rfl (fun ls hl => ?_)
  refine lv_iconst (v := nI 0) hx hb dX1_placeInOrder_6 rfl ?_
  refine lv_istore (lv' := [(6, .int (nI 0)), (5, .int (-1 : Int32)), (4, .int (nI 0)), (0, .ref (ad 18)), (1, .int set), (2, .int aa), (3, .int (nI pl))]) hx hb dX1_placeInOrder_7 hl (by decide) rfl (fun ls hl => ?_)
  have loop_9 : ∀ (n_9 : Nat) (k_9 : Nat) (x5_9 : Int32) (x4_9 : Int32), (k_9 + n_9 = pl) → L_X1_placeInOrder_9 td dy lb set aa n_9 k_9 x5_9 x4_9 = RES → ∀ (ls : Array Slot), lv_has ls 7 [(6, .int (nI k_9)), (5, .int x5_9), (4, .int x4_9), (0, .ref (ad 18)), (1, .int set), (2, .int aa), (3, .int (nI pl))] → W p l e (headSpec wsX1_placeInOrder rm_X1_placeInOrder).room s m ([.ref (ad 18), .int set, .int aa, .int (nI pl)] : List Value).toArray below meth c s.heap [] 0 0 Q (F0 m 9 ls []) := by
    intro n_9
    induction n_9 with
    | zero =>
      intro k_9 x5_9 x4_9 hk_9 hL_9 ls hl
      refine lv_iload hx hb dX1_placeInOrder_9 (lv_at hl 0 rfl) ?_
      refine lv_iload_n hx hb dX1_placeInOrder_11 rfl (lv_at hl 6 rfl) ?_
      refine mv_icmp_ge (tgt := 48) hx hb dX1_placeInOrder_12 (by decide) (by omega) (by omega) (fun c_3 => ?_) (fun c_3 => (by omega : False).elim)
      refine lv_iload hx hb dX1_placeInOrder_48 (lv_at hl 1 rfl) ?_
      subst hQe
      have hf : (f_X1_placeInOrder td dy lb set aa pl) = x5_9 := by rw [← hRES, ← hL_9, L_X1_placeInOrder_9]
      exact W.iret (v := x5_9) hx hb hr (fun t ht hW => ⟨x5_9, rfl, hf.symm, ht⟩) (fun _ h => by cases h) dX1_placeInOrder_50
    | succ n_9 ih_9 =>
      intro k_9 x5_9 x4_9 hk_9 hL_9 ls hl
      refine lv_iload hx hb dX1_placeInOrder_9 (lv_at hl 0 rfl) ?_
      refine lv_iload_n hx hb dX1_placeInOrder_11 rfl (lv_at hl 6 rfl) ?_
      refine mv_icmp_ge (tgt := 48) hx hb dX1_placeInOrder_12 (by decide) (by omega) (by omega) (fun c_1 => (by omega : False).elim) (fun c_1 => ?_)
      refine lv_aload_n hx hb dX1_placeInOrder_15 rfl (lv_at hl 3 rfl) ?_
      refine lv_iload_n hx hb dX1_placeInOrder_16 rfl (lv_at hl 4 rfl) ?_
      refine lv_iload hx hb dX1_placeInOrder_17 (lv_at hl 2 rfl) ?_
      refine lv_iload_n hx hb dX1_placeInOrder_19 rfl (lv_at hl 5 rfl) ?_
      refine vp_callSi (va_Run.run (va_runV (As := [.int set, .int x4_9, .int aa]) (rest := []) ⟨hx, hb, hml, hown, hts⟩ (c_X1_nextInOrder l D cI cL cZ ad A tx td dr dy lb pn ps ks si kb set x4_9 aa (by first | assumption | omega)) (cwV 3 hts gX1_placeInOrder_X1_nextInOrder rfl rfl rfl (by decide +kernel) ⟨Nat.le_of_ble_eq_true rfl, Nat.le_of_ble_eq_true rfl⟩) ⟨sR_fb, va_recv hK hP (ci := 1) (q0 := 18) rfl rfl, sR_at hP hK hD hE⟩ rfl rfl hl.1 rfl (lv_room (Nat.le_of_ble_eq_true rfl)) dX1_placeInOrder_20 ⟨Nat.zero_le _, Nat.zero_le _⟩)) (fun r hr => ?_)
      subst hr
      refine lv_istore (lv' := [(5, .int (f_X1_nextInOrder td dy lb set x4_9 aa)), (6, .int (nI k_9)), (4, .int x4_9), (0, .ref (ad 18)), (1, .int set), (2, .int aa), (3, .int (nI pl))]) hx hb dX1_placeInOrder_23 hl (by decide) rfl (fun ls hl => ?_)
      refine lv_iload hx hb dX1_placeInOrder_25 (lv_at hl 0 rfl) ?_
      refine lv_iconst (v := (-1)) hx hb dX1_placeInOrder_27 rfl ?_
      refine lv_icmp_ne (tgt := 33) hx hb dX1_placeInOrder_28 (by decide) (fun c_2 => ?_) (fun c_2 => ?_)
      · refine lv_iload hx hb dX1_placeInOrder_33 (lv_at hl 2 rfl) ?_
        refine lv_iconst (v := nI 1) hx hb dX1_placeInOrder_35 rfl ?_
        refine lv_iload hx hb dX1_placeInOrder_36 (lv_at hl 0 rfl) ?_
        refine lv_ishl hx hb dX1_placeInOrder_38 ?_
        refine lv_ior hx hb dX1_placeInOrder_39 ?_
        refine lv_istore (lv' := [(4, .int (x4_9 ||| ((nI 1) <<< ((f_X1_nextInOrder td dy lb set x4_9 aa) &&& 31)))), (5, .int (f_X1_nextInOrder td dy lb set x4_9 aa)), (6, .int (nI k_9)), (0, .ref (ad 18)), (1, .int set), (2, .int aa), (3, .int (nI pl))]) hx hb dX1_placeInOrder_40 hl (by decide) rfl (fun ls hl => ?_)
        refine mv_iinc (y := k_9 + 1) (lv' := [(6, .int (nI (k_9 + 1))), (4, .int (x4_9 ||| ((nI 1) <<< ((f_X1_nextInOrder td dy lb set x4_9 aa) &&& 31)))), (5, .int (f_X1_nextInOrder td dy lb set x4_9 aa)), (0, .ref (ad 18)), (1, .int set), (2, .int aa), (3, .int (nI pl))]) hx hb dX1_placeInOrder_42 hl (k := 2) rfl (nI_p1 _) (by decide) rfl (fun ls hl => ?_)
        refine lv_goto (tgt := 9) hx hb dX1_placeInOrder_45 (by decide) ?_
        exact ih_9 (k_9 + 1) (f_X1_nextInOrder td dy lb set x4_9 aa) (x4_9 ||| ((nI 1) <<< ((f_X1_nextInOrder td dy lb set x4_9 aa) &&& 31))) (by omega) (by have e9 := hL_9; rw [L_X1_placeInOrder_9, if_neg c_2] at e9; exact e9) ls (lv_sub hl [0, 2, 1, 3, 4, 5, 6] rfl)
      · refine lv_iconst (v := (-1)) hx hb dX1_placeInOrder_31 rfl ?_
        subst hQe
        have hf : (f_X1_placeInOrder td dy lb set aa pl) = (-1 : Int32) := by rw [← hRES, ← hL_9, L_X1_placeInOrder_9, if_pos c_2]
        exact W.iret (v := (-1 : Int32)) hx hb hr (fun t ht hW => ⟨(-1 : Int32), rfl, hf.symm, ht⟩) (fun _ h => by cases h) dX1_placeInOrder_32
  exact loop_9 pl 0 (-1 : Int32) (nI 0) (by omega) (by rw [hRES, f_X1_placeInOrder]) ls (lv_sub hl [0, 1, 2, 3, 4, 5, 6] rfl)
def L_X4_fit_2 (td : XTd) (dy : XDy) (si : XSi) (clk : Int32) : Nat → Nat → Int32
  | 0, _ => nI 1
  | n_2 + 1, k_2 => (if (f_X1_fine td dy (si.1 k_2) clk) = (si.2.1 k_2) then (L_X4_fit_2 td dy si clk n_2 (k_2 + 1)) else nI 0)
def f_X4_fit (td : XTd) (dy : XDy) (si : XSi) (clk : Int32) : Int32 := (L_X4_fit_2 td dy si clk si.2.2 0)
theorem L_X4_fit_b (td : XTd) (dy : XDy) (si : XSi) (clk : Int32) : ∀ n k : Nat, L_X4_fit_2 td dy si clk n k = nI 0 ∨ L_X4_fit_2 td dy si clk n k = nI 1
  | 0, _ => Or.inr rfl
  | n + 1, k => by
    rw [L_X4_fit_2]
    split
    · exact L_X4_fit_b td dy si clk n (k + 1)
    · exact Or.inl rfl
theorem f_X4_fit_b (td : XTd) (dy : XDy) (si : XSi) (clk : Int32) : (f_X4_fit td dy si clk) = nI 0 ∨ (f_X4_fit td dy si clk) = nI 1 := by
  unfold f_X4_fit
  exact L_X4_fit_b _ _ _ _ _ _
abbrev rm_X4_fit : Room := { frames := 5, cells := 0, slots := 0, locals := 121 }
set_option maxHeartbeats 4000000 in
set_option maxRecDepth 100000 in
theorem c_X4_fit (l : Launch) (D : va_G) (cI cL cZ : ClassId) (ad : Nat → Nat) (A : Nat → Prop) (tx : XTx) (td : XTd) (dr : XTd) (dy : XDy) (lb : (Nat → Int32)) (pn : (Nat × Nat)) (ps : XSh) (ks : XSh) (si : XSi) (kb : Int32) (clk : Int32) (hpe : td.2.2.2.2.2.1 ≤ 6) (hh : si.2.2 ≤ 6) : Met l yX4_fit wsX4_fit rm_X4_fit (va_Pc [.ref (ad 31), .ref (ad 18), .int clk] (sR D cI cL cZ A (xW cI cL cZ ad tx td dr dy lb pn ps ks si kb))) (vp_Si (fun r => r = (f_X4_fit td dy si clk))) 0 0 (fun _ => False) := by
  refine Met.ofW (cc := cX4_fit) (maxL := 4) (ret := (some .boolean)) (by decide) rfl ?_
  intro p e s m args below meth c s₁ B hml hv
  obtain ⟨rfl, hP, hK, hD, hE⟩ := hv
  have hx := B.exec
  have hb := B.bytes
  have hr := B.returns
  have hts := atoms_spec (ws := wsX4_fit) B.pre
  have hown : s.vm.findClass RX4 = some m.cls := findClass_of_methodNamed B.named
  have hlocks := B.notSynchronized
  have hl := lv_entry ([.ref (ad 31), .ref (ad 18), .int clk]) (n := 4) (Nat.le_of_ble_eq_true rfl)
  rw [lg_entry_eq]
  generalize (lg_sl ([.ref (ad 31), .ref (ad 18), .int clk]) ++ List.replicate (4 - (lg_sl ([.ref (ad 31), .ref (ad 18), .int clk])).length) Slot.unset).toArray = ls at hl ⊢
  have hl : lv_has ls 4 [(0, .ref (ad 31)), (1, .ref (ad 18)), (2, .int clk)] := hl
  obtain ⟨Q, hQe⟩ : ∃ Q, Q = MQ below (vp_Si (fun r => r = (f_X4_fit td dy si clk))) ([.ref (ad 31), .ref (ad 18), .int clk] : List Value).toArray s 0 0 (fun _ => False) := ⟨_, rfl⟩
  show W p l e (headSpec wsX4_fit rm_X4_fit).room s m ([.ref (ad 31), .ref (ad 18), .int clk] : List Value).toArray below meth c s.heap [] 0 0 (MQ below (vp_Si (fun r => r = (f_X4_fit td dy si clk))) ([.ref (ad 31), .ref (ad 18), .int clk] : List Value).toArray s 0 0 (fun _ => False)) (F0 m 0 ls [])
  rw [← hQe]
  obtain ⟨RES, hRES⟩ : ∃ z, z = (f_X4_fit td dy si clk) := ⟨_, rfl⟩
  refine lv_iconst (v := nI 0) hx hb dX4_fit_0 rfl ?_
  refine lv_istore_n (lv' := [(3, .int (nI 0)), (0, .ref (ad 31)), (1, .ref (ad 18)), (2, .int clk)]) hx hb dX4_fit_1 rfl hl (by decide) rfl (fun ls hl => ?_)
  have loop_2 : ∀ (n_2 : Nat) (k_2 : Nat) , (k_2 + n_2 = si.2.2) → L_X4_fit_2 td dy si clk n_2 k_2 = RES → ∀ (ls : Array Slot), lv_has ls 4 [(3, .int (nI k_2)), (0, .ref (ad 31)), (1, .ref (ad 18)), (2, .int clk)] → W p l e (headSpec wsX4_fit rm_X4_fit).room s m ([.ref (ad 31), .ref (ad 18), .int clk] : List Value).toArray below meth c s.heap [] 0 0 Q (F0 m 2 ls []) := by
    intro n_2
    induction n_2 with
    | zero =>
      intro k_2 hk_2 hL_2 ls hl
      refine lv_iload_n hx hb dX4_fit_2 rfl (lv_at hl 0 rfl) ?_
      refine lv_aload_n hx hb dX4_fit_3 rfl (lv_at hl 1 rfl) ?_
      refine va_get (D := D) (ci := 4) (v := .int (nI si.2.2)) (C := RX4) (T := TX4) (N := 3) hx hb hts (by decide +kernel) hown hK hP 31 rfl rfl 2 (by decide) (hts (.fieldLink RX4 18 "SummitTime$Sightings" "held" "I") (by decide +kernel)) (fun _ h9 => h9) rfl dX4_fit_4 ?_
      refine mv_icmp_ge (tgt := 44) hx hb dX4_fit_7 (by decide) (by omega) (by omega) (fun c_4 => ?_) (fun c_4 => (by omega : False).elim)
      refine lv_iconst (v := nI 1) hx hb dX4_fit_44 rfl ?_
      subst hQe
      have hf : (f_X4_fit td dy si clk) = nI 1 := by rw [← hRES, ← hL_2, L_X4_fit_2]
      exact W.zret (v := nI 1) (ty := .boolean) hx hb hr rfl (fun t ht hW => ⟨nI 1, rfl, hf.symm, ht⟩) (fun _ h => by cases h) dX4_fit_45
    | succ n_2 ih_2 =>
      intro k_2 hk_2 hL_2 ls hl
      refine lv_iload_n hx hb dX4_fit_2 rfl (lv_at hl 0 rfl) ?_
      refine lv_aload_n hx hb dX4_fit_3 rfl (lv_at hl 1 rfl) ?_
      refine va_get (D := D) (ci := 4) (v := .int (nI si.2.2)) (C := RX4) (T := TX4) (N := 3) hx hb hts (by decide +kernel) hown hK hP 31 rfl rfl 2 (by decide) (hts (.fieldLink RX4 18 "SummitTime$Sightings" "held" "I") (by decide +kernel)) (fun _ h9 => h9) rfl dX4_fit_4 ?_
      refine mv_icmp_ge (tgt := 44) hx hb dX4_fit_7 (by decide) (by omega) (by omega) (fun c_1 => (by omega : False).elim) (fun c_1 => ?_)
      refine lv_iload_n hx hb dX4_fit_10 rfl (lv_at hl 0 rfl) ?_
      refine lv_bipush (v := nI 6) hx hb dX4_fit_11 rfl ?_
      refine mv_icmp_ge (tgt := 44) hx hb dX4_fit_13 (by decide) (by omega) (by decide) (fun c_2 => (by omega : False).elim) (fun c_2 => ?_)
      refine lv_aload_n hx hb dX4_fit_16 rfl (lv_at hl 2 rfl) ?_
      refine lv_aload_n hx hb dX4_fit_17 rfl (lv_at hl 1 rfl) ?_
      refine va_get (D := D) (ci := 4) (v := .ref (ad 32)) (C := RX4) (T := TX4) (N := 3) hx hb hts (by decide +kernel) hown hK hP 31 rfl rfl 0 (by decide) (hts (.fieldLink RX4 9 "SummitTime$Sightings" "who" "[I") (by decide +kernel)) (fun _ h9 => h9) rfl dX4_fit_18 ?_
      refine lv_iload_n hx hb dX4_fit_21 rfl (lv_at hl 0 rfl) ?_
      refine mv_iald (f := si.1) hx hb hK hP 32 0 rfl rfl (by omega) (by decide) dX4_fit_22 ?_
      refine lv_iload_n hx hb dX4_fit_23 rfl (lv_at hl 3 rfl) ?_
      refine vp_callSi (va_Run.run (va_runV (As := [.int (si.1 k_2), .int clk]) (rest := []) ⟨hx, hb, hml, hown, hts⟩ (c_X1_fine l D cI cL cZ ad A tx td dr dy lb pn ps ks si kb (si.1 k_2) clk (by first | assumption | omega)) (cwV 2 hts gX4_fit_X1_fine rfl rfl rfl (by decide +kernel) ⟨Nat.le_of_ble_eq_true rfl, Nat.le_of_ble_eq_true rfl⟩) ⟨sR_fb, va_recv hK hP (ci := 1) (q0 := 18) rfl rfl, sR_at hP hK hD hE⟩ rfl rfl hl.1 rfl (lv_room (Nat.le_of_ble_eq_true rfl)) dX4_fit_24 ⟨Nat.zero_le _, Nat.zero_le _⟩)) (fun r hr => ?_)
      subst hr
      refine lv_aload_n hx hb dX4_fit_27 rfl (lv_at hl 1 rfl) ?_
      refine va_get (D := D) (ci := 4) (v := .ref (ad 33)) (C := RX4) (T := TX4) (N := 3) hx hb hts (by decide +kernel) hown hK hP 31 rfl rfl 1 (by decide) (hts (.fieldLink RX4 15 "SummitTime$Sightings" "fines" "[I") (by decide +kernel)) (fun _ h9 => h9) rfl dX4_fit_28 ?_
      refine lv_iload_n hx hb dX4_fit_31 rfl (lv_at hl 0 rfl) ?_
      refine mv_iald (f := si.2.1) hx hb hK hP 33 0 rfl rfl (by omega) (by decide) dX4_fit_32 ?_
      refine lv_icmp_eq (tgt := 38) hx hb dX4_fit_33 (by decide) (fun c_3 => ?_) (fun c_3 => ?_)
      · refine mv_iinc (y := k_2 + 1) (lv' := [(3, .int (nI (k_2 + 1))), (0, .ref (ad 31)), (1, .ref (ad 18)), (2, .int clk)]) hx hb dX4_fit_38 hl (k := 0) rfl (nI_p1 _) (by decide) rfl (fun ls hl => ?_)
        refine lv_goto (tgt := 2) hx hb dX4_fit_41 (by decide) ?_
        exact ih_2 (k_2 + 1)  (by omega) (by have e9 := hL_2; rw [L_X4_fit_2, if_pos c_3] at e9; exact e9) ls (lv_sub hl [0, 1, 2, 3] rfl)
      · refine lv_iconst (v := nI 0) hx hb dX4_fit_36 rfl ?_
        subst hQe
        have hf : (f_X4_fit td dy si clk) = nI 0 := by rw [← hRES, ← hL_2, L_X4_fit_2, if_neg c_3]
        exact W.zret (v := nI 0) (ty := .boolean) hx hb hr rfl (fun t ht hW => ⟨nI 0, rfl, hf.symm, ht⟩) (fun _ h => by cases h) dX4_fit_37
  exact loop_2 si.2.2 0 (by omega) (by rw [hRES, f_X4_fit]) ls (lv_sub hl [0, 1, 2, 3] rfl)
