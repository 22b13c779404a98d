def bc1 (x : Int64) : Int64 := x - ((x.toUInt64 >>> ((nI 1).toInt64.toUInt64 &&& Int64.toUInt64 63)).toInt64 &&& (6148914691236517205 : Int64))
def bc2 (x : Int64) : Int64 := (x &&& (3689348814741910323 : Int64)) + ((x.toUInt64 >>> ((nI 2).toInt64.toUInt64 &&& Int64.toUInt64 63)).toInt64 &&& (3689348814741910323 : Int64))
def bc3 (x : Int64) : Int64 := (x + (x.toUInt64 >>> ((nI 4).toInt64.toUInt64 &&& Int64.toUInt64 63)).toInt64) &&& (1085102592571150095 : Int64)
def bc4 (x : Int64) : Int64 := x + (x.toUInt64 >>> ((nI 8).toInt64.toUInt64 &&& Int64.toUInt64 63)).toInt64
def bc5 (x : Int64) : Int64 := x + (x.toUInt64 >>> ((nI 16).toInt64.toUInt64 &&& Int64.toUInt64 63)).toInt64
def bc6 (x : Int64) : Int64 := x + (x.toUInt64 >>> ((nI 32).toInt64.toUInt64 &&& Int64.toUInt64 63)).toInt64
def f_J13_bitCount_95d88 (x0 : Int64) : Int32 := (((bc6 (bc5 (bc4 (bc3 (bc2 (bc1 x0)))))).toInt32) &&& (nI 127))
abbrev rm_J13_bitCount_95d88 : Room := { frames := 0, cells := 0, slots := 0, locals := 0 }
set_option maxHeartbeats 4000000 in
set_option maxRecDepth 100000 in
theorem c_J13_bitCount_95d88 (l : Launch) (x0 : Int64)  : Met l yJ13_bitCount_95d88 wsJ13_bitCount_95d88 rm_J13_bitCount_95d88 (va_Pc [.long x0] (fun _ => True)) (vp_Si (fun r => r = (f_J13_bitCount_95d88 x0))) 0 0 (fun _ => False) := by
  refine Met.ofW (cc := cJ13_bitCount_95d88) (maxL := 2) (ret := (some .int)) (by decide) rfl ?_
  intro p e s m args below meth c s₁ B hml hv
  obtain ⟨rfl, -⟩ := hv
  have hx := B.exec
  have hb := B.bytes
  have hr := B.returns
  have hts := atoms_spec (ws := wsJ13_bitCount_95d88) B.pre
  have hown : s.vm.findClass RJ13 = some m.cls := findClass_of_methodNamed B.named
  have hlocks := B.notSynchronized
  have hl := lv_entry ([.long x0]) (n := 2) (Nat.le_of_ble_eq_true rfl)
  rw [lg_entry_eq]
  generalize (lg_sl ([.long x0]) ++ List.replicate (2 - (lg_sl ([.long x0])).length) Slot.unset).toArray = ls at hl ⊢
  have hl : lv_has ls 2 [(0, .long x0)] := hl
  refine lv_lload_n hx hb dJ13_bitCount_95d88_0 rfl (lv_at hl 0 rfl) ?_
  refine lv_lload_n hx hb dJ13_bitCount_95d88_1 rfl (lv_at hl 0 rfl) ?_
  refine lv_iconst (v := nI 1) hx hb dJ13_bitCount_95d88_2 rfl ?_
  refine lv_lushr hx hb dJ13_bitCount_95d88_3 rfl ?_
  refine lv_ldc2 (v := (6148914691236517205)) hx hb hown (hts (.constantLong RJ13 314 (6148914691236517205)) (by decide +kernel)) dJ13_bitCount_95d88_4 ?_
  refine lv_land hx hb dJ13_bitCount_95d88_7 ?_
  refine lv_lsub hx hb dJ13_bitCount_95d88_8 ?_
  refine mv_topl (y := (bc1 x0)) rfl ?_
  refine lv_lstore_n (lv' := [(0, .long (bc1 x0))]) hx hb dJ13_bitCount_95d88_9 rfl hl (by decide) rfl (fun ls hl => ?_)
  refine lv_lload_n hx hb dJ13_bitCount_95d88_10 rfl (lv_at hl 0 rfl) ?_
  refine lv_ldc2 (v := (3689348814741910323)) hx hb hown (hts (.constantLong RJ13 316 (3689348814741910323)) (by decide +kernel)) dJ13_bitCount_95d88_11 ?_
  refine lv_land hx hb dJ13_bitCount_95d88_14 ?_
  refine lv_lload_n hx hb dJ13_bitCount_95d88_15 rfl (lv_at hl 0 rfl) ?_
  refine lv_iconst (v := nI 2) hx hb dJ13_bitCount_95d88_16 rfl ?_
  refine lv_lushr hx hb dJ13_bitCount_95d88_17 rfl ?_
  refine lv_ldc2 (v := (3689348814741910323)) hx hb hown (hts (.constantLong RJ13 316 (3689348814741910323)) (by decide +kernel)) dJ13_bitCount_95d88_18 ?_
  refine lv_land hx hb dJ13_bitCount_95d88_21 ?_
  refine lv_ladd hx hb dJ13_bitCount_95d88_22 ?_
  refine mv_topl (y := (bc2 (bc1 x0))) rfl ?_
  refine lv_lstore_n (lv' := [(0, .long (bc2 (bc1 x0)))]) hx hb dJ13_bitCount_95d88_23 rfl hl (by decide) rfl (fun ls hl => ?_)
  refine lv_lload_n hx hb dJ13_bitCount_95d88_24 rfl (lv_at hl 0 rfl) ?_
  refine lv_lload_n hx hb dJ13_bitCount_95d88_25 rfl (lv_at hl 0 rfl) ?_
  refine lv_iconst (v := nI 4) hx hb dJ13_bitCount_95d88_26 rfl ?_
  refine lv_lushr hx hb dJ13_bitCount_95d88_27 rfl ?_
  refine lv_ladd hx hb dJ13_bitCount_95d88_28 ?_
  refine lv_ldc2 (v := (1085102592571150095)) hx hb hown (hts (.constantLong RJ13 318 (1085102592571150095)) (by decide +kernel)) dJ13_bitCount_95d88_29 ?_
  refine lv_land hx hb dJ13_bitCount_95d88_32 ?_
  refine mv_topl (y := (bc3 (bc2 (bc1 x0)))) rfl ?_
  refine lv_lstore_n (lv' := [(0, .long (bc3 (bc2 (bc1 x0))))]) hx hb dJ13_bitCount_95d88_33 rfl hl (by decide) rfl (fun ls hl => ?_)
  refine lv_lload_n hx hb dJ13_bitCount_95d88_34 rfl (lv_at hl 0 rfl) ?_
  refine lv_lload_n hx hb dJ13_bitCount_95d88_35 rfl (lv_at hl 0 rfl) ?_
  refine lv_bipush (v := nI 8) hx hb dJ13_bitCount_95d88_36 rfl ?_
  refine lv_lushr hx hb dJ13_bitCount_95d88_38 rfl ?_
  refine lv_ladd hx hb dJ13_bitCount_95d88_39 ?_
  refine mv_topl (y := (bc4 (bc3 (bc2 (bc1 x0))))) rfl ?_
  refine lv_lstore_n (lv' := [(0, .long (bc4 (bc3 (bc2 (bc1 x0)))))]) hx hb dJ13_bitCount_95d88_40 rfl hl (by decide) rfl (fun ls hl => ?_)
  refine lv_lload_n hx hb dJ13_bitCount_95d88_41 rfl (lv_at hl 0 rfl) ?_
  refine lv_lload_n hx hb dJ13_bitCount_95d88_42 rfl (lv_at hl 0 rfl) ?_
  refine lv_bipush (v := nI 16) hx hb dJ13_bitCount_95d88_43 rfl ?_
  refine lv_lushr hx hb dJ13_bitCount_95d88_45 rfl ?_
  refine lv_ladd hx hb dJ13_bitCount_95d88_46 ?_
  refine mv_topl (y := (bc5 (bc4 (bc3 (bc2 (bc1 x0)))))) rfl ?_
  refine lv_lstore_n (lv' := [(0, .long (bc5 (bc4 (bc3 (bc2 (bc1 x0))))))]) hx hb dJ13_bitCount_95d88_47 rfl hl (by decide) rfl (fun ls hl => ?_)
  refine lv_lload_n hx hb dJ13_bitCount_95d88_48 rfl (lv_at hl 0 rfl) ?_
  refine lv_lload_n hx hb dJ13_bitCount_95d88_49 rfl (lv_at hl 0 rfl) ?_
  refine lv_bipush (v := nI 32) hx hb dJ13_bitCount_95d88_50 rfl ?_
  refine lv_lushr hx hb dJ13_bitCount_95d88_52 rfl ?_
  refine lv_ladd hx hb dJ13_bitCount_95d88_53 ?_
  refine mv_topl (y := (bc6 (bc5 (bc4 (bc3 (bc2 (bc1 x0))))))) rfl ?_
  refine lv_lstore_n (lv' := [(0, .long (bc6 (bc5 (bc4 (bc3 (bc2 (bc1 x0)))))))]) hx hb dJ13_bitCount_95d88_54 rfl hl (by decide) rfl (fun ls hl => ?_)
  refine lv_lload_n hx hb dJ13_bitCount_95d88_55 rfl (lv_at hl 0 rfl) ?_
  refine lv_l2i hx hb dJ13_bitCount_95d88_56 rfl ?_
  refine lv_bipush (v := nI 127) hx hb dJ13_bitCount_95d88_57 rfl ?_
  refine lv_iand hx hb dJ13_bitCount_95d88_59 ?_
  have hf : (f_J13_bitCount_95d88 x0) = (((bc6 (bc5 (bc4 (bc3 (bc2 (bc1 x0)))))).toInt32) &&& (nI 127)) := by rw [f_J13_bitCount_95d88]
  exact W.iret (v := (((bc6 (bc5 (bc4 (bc3 (bc2 (bc1 x0)))))).toInt32) &&& (nI 127))) hx hb hr (fun t ht hW => ⟨(((bc6 (bc5 (bc4 (bc3 (bc2 (bc1 x0)))))).toInt32) &&& (nI 127)), rfl, hf.symm, ht⟩) (fun _ h => by cases h) dJ13_bitCount_95d88_60
def f_X1_stands (td : XTd) (pa : Int32) (sta : Int32) (clk : Int32) : Int64 := (if sta = (-1 : Int32) then (0 : Int64) else (f_X7_span ((sta + (f_X6_walkOf td pa)) + clk) ((((sta + (f_X6_walkOf td pa)) + clk) + (f_X6_stayOf td pa)) - (nI 1))))
abbrev rm_X1_stands : Room := { frames := 1, cells := 0, slots := 0, locals := 22 }
set_option maxHeartbeats 4000000 in
set_option maxRecDepth 100000 in
theorem c_X1_stands (l : Launch) (D : va_G) (cI cL cZ : ClassId) (ad : Nat → Nat) (A : Nat → Prop) (tx : XTx) (td : XTd) (dr : XTd) (dy : XDy) (lb : (Nat → Int32)) (pn : (Nat × Nat)) (ps : XSh) (ks : XSh) (si : XSi) (kb : Int32) (pa : Int32) (sta : Int32) (clk : Int32)  : Met l yX1_stands wsX1_stands rm_X1_stands (va_Pc [.ref (ad 18), .int pa, .int sta, .int clk] (sR D cI cL cZ A (xW cI cL cZ ad tx td dr dy lb pn ps ks si kb))) (vp_Sl (fun r => r = (f_X1_stands td pa sta clk))) 0 0 (fun _ => False) := by
  refine Met.ofW (cc := cX1_stands) (maxL := 5) (ret := (some .long)) (by decide) rfl ?_
  intro p e s m args below meth c s₁ B hml hv
  obtain ⟨rfl, hP, hK, hD, hE⟩ := hv
  have hx := B.exec
  have hb := B.bytes
  have hr := B.returns
  have hts := atoms_spec (ws := wsX1_stands) B.pre
  have hown : s.vm.findClass RX1 = some m.cls := findClass_of_methodNamed B.named
  have hlocks := B.notSynchronized
  have hl := lv_entry ([.ref (ad 18), .int pa, .int sta, .int clk]) (n := 5) (Nat.le_of_ble_eq_true rfl)
  rw [lg_entry_eq]
  generalize (lg_sl ([.ref (ad 18), .int pa, .int sta, .int clk]) ++ List.replicate (5 - (lg_sl ([.ref (ad 18), .int pa, .int sta, .int clk])).length) Slot.unset).toArray = ls at hl ⊢
  have hl : lv_has ls 5 [(0, .ref (ad 18)), (1, .int pa), (2, .int sta), (3, .int clk)] := hl
  refine lv_iload_n hx hb dX1_stands_0 rfl (lv_at hl 2 rfl) ?_
  refine lv_iconst (v := (-1)) hx hb dX1_stands_1 rfl ?_
  refine lv_icmp_ne (tgt := 7) hx hb dX1_stands_2 (by decide) (fun c_1 => ?_) (fun c_1 => ?_)
  · refine lv_iload_n hx hb dX1_stands_7 rfl (lv_at hl 2 rfl) ?_
    refine lv_aload_n hx hb dX1_stands_8 rfl (lv_at hl 0 rfl) ?_
    refine va_get (D := D) (ci := 1) (v := .ref (ad 3)) (C := RX1) (T := TX1) (N := 3) hx hb hts (by decide +kernel) hown hK hP 18 rfl rfl 0 (by decide) (hts (.fieldLink RX1 15 "SummitTime$Ledger" "told" "LSummitTime$Told;") (by decide +kernel)) (fun _ h9 => h9) rfl dX1_stands_9 ?_
    refine lv_iload_n hx hb dX1_stands_12 rfl (lv_at hl 1 rfl) ?_
    refine vp_callSi (va_Run.run (va_runV (As := [.int pa]) (rest := [.int sta]) ⟨hx, hb, hml, hown, hts⟩ (c_X6_walkOf l D cI cL cZ ad A tx td dr dy lb pn ps ks si kb pa ) (cwV 1 hts gX1_stands_X6_walkOf rfl rfl rfl (by decide +kernel) ⟨Nat.le_of_ble_eq_true rfl, Nat.le_of_ble_eq_true rfl⟩) ⟨sR_fb, va_recv hK hP (ci := 6) (q0 := 3) rfl rfl, sR_at hP hK hD hE⟩ rfl rfl hl.1 rfl (lv_room (Nat.le_of_ble_eq_true rfl)) dX1_stands_13 ⟨Nat.zero_le _, Nat.zero_le _⟩)) (fun r hr => ?_)
    subst hr
    refine lv_iadd hx hb dX1_stands_16 ?_
    refine lv_iload_n hx hb dX1_stands_17 rfl (lv_at hl 3 rfl) ?_
    refine lv_iadd hx hb dX1_stands_18 ?_
    refine lv_istore (lv' := [(4, .int ((sta + (f_X6_walkOf td pa)) + clk)), (0, .ref (ad 18)), (1, .int pa), (2, .int sta), (3, .int clk)]) hx hb dX1_stands_19 hl (by decide) rfl (fun ls hl => ?_)
    refine lv_iload hx hb dX1_stands_21 (lv_at hl 0 rfl) ?_
    refine lv_iload hx hb dX1_stands_23 (lv_at hl 0 rfl) ?_
    refine lv_aload_n hx hb dX1_stands_25 rfl (lv_at hl 1 rfl) ?_
    refine va_get (D := D) (ci := 1) (v := .ref (ad 3)) (C := RX1) (T := TX1) (N := 3) hx hb hts (by decide +kernel) hown hK hP 18 rfl rfl 0 (by decide) (hts (.fieldLink RX1 15 "SummitTime$Ledger" "told" "LSummitTime$Told;") (by decide +kernel)) (fun _ h9 => h9) rfl dX1_stands_26 ?_
    refine lv_iload_n hx hb dX1_stands_29 rfl (lv_at hl 2 rfl) ?_
    refine vp_callSi (va_Run.run (va_runV (As := [.int pa]) (rest := [.int ((sta + (f_X6_walkOf td pa)) + clk), .int ((sta + (f_X6_walkOf td pa)) + clk)]) ⟨hx, hb, hml, hown, hts⟩ (c_X6_stayOf l D cI cL cZ ad A tx td dr dy lb pn ps ks si kb pa ) (cwV 1 hts gX1_stands_X6_stayOf rfl rfl rfl (by decide +kernel) ⟨Nat.le_of_ble_eq_true rfl, Nat.le_of_ble_eq_true rfl⟩) ⟨sR_fb, va_recv hK hP (ci := 6) (q0 := 3) rfl rfl, sR_at hP hK hD hE⟩ rfl rfl hl.1 rfl (lv_room (Nat.le_of_ble_eq_true rfl)) dX1_stands_30 ⟨Nat.zero_le _, Nat.zero_le _⟩)) (fun r hr => ?_)
    subst hr
    refine lv_iadd hx hb dX1_stands_33 ?_
    refine lv_iconst (v := nI 1) hx hb dX1_stands_34 rfl ?_
    refine lv_isub hx hb dX1_stands_35 ?_
    refine vp_callSl (va_Run.run (va_runSN (As := [.int ((sta + (f_X6_walkOf td pa)) + clk), .int ((((sta + (f_X6_walkOf td pa)) + clk) + (f_X6_stayOf td pa)) - (nI 1))]) (rest := []) ⟨hx, hb, hml, hown, hts⟩ (c_X7_span l ((sta + (f_X6_walkOf td pa)) + clk) ((((sta + (f_X6_walkOf td pa)) + clk) + (f_X6_stayOf td pa)) - (nI 1)) ) ⟨va_cnB 2 hts gX1_stands_X7_span_n32 rfl rfl rfl hE.1 (hts (.initialized RX7) (by decide +kernel)) (by decide +kernel) ⟨Nat.le_of_ble_eq_true rfl, Nat.le_of_ble_eq_true rfl⟩, hts (.static yX7_span) (by decide +kernel), trivial⟩ ⟨pR_fb, pR_at⟩ rfl rfl hl.1 rfl (lv_room (Nat.le_of_ble_eq_true rfl)) dX1_stands_36 ⟨Nat.zero_le _, Nat.zero_le _⟩)) (fun r hr => ?_)
    subst hr
    have hf : (f_X1_stands td pa sta clk) = (f_X7_span ((sta + (f_X6_walkOf td pa)) + clk) ((((sta + (f_X6_walkOf td pa)) + clk) + (f_X6_stayOf td pa)) - (nI 1))) := by rw [f_X1_stands, if_neg c_1]
    exact W.lret (v := (f_X7_span ((sta + (f_X6_walkOf td pa)) + clk) ((((sta + (f_X6_walkOf td pa)) + clk) + (f_X6_stayOf td pa)) - (nI 1)))) hx hb hr (fun t ht hW => ⟨(f_X7_span ((sta + (f_X6_walkOf td pa)) + clk) ((((sta + (f_X6_walkOf td pa)) + clk) + (f_X6_stayOf td pa)) - (nI 1))), rfl, hf.symm, ht⟩) (fun _ h => by cases h) dX1_stands_39
  · refine lv_lconst (v := 0) hx hb dX1_stands_5 rfl ?_
    have hf : (f_X1_stands td pa sta clk) = (0 : Int64) := by rw [f_X1_stands, if_pos c_1]
    exact W.lret (v := (0 : Int64)) hx hb hr (fun t ht hW => ⟨(0 : Int64), rfl, hf.symm, ht⟩) (fun _ h => by cases h) dX1_stands_6
def L_X1_crowdAheadOf_8 (td : XTd) (dy : XDy) (pa : Int32) (clk : Int32) : Nat → Nat → Int64 → Int64 → Int64 × Int64
  | 0, k_8, x5_8, x3_8 => (if pa ≤ nI k_8 then (x5_8, x3_8) else (x5_8, x3_8))
  | n_8 + 1, k_8, x5_8, x3_8 => (if pa ≤ nI k_8 then (x5_8, x3_8) else (L_X1_crowdAheadOf_8 td dy pa clk n_8 (k_8 + 1) (x5_8 ||| (x3_8 &&& (f_X1_stands td (nI k_8) (f_X0_startOf dy (nI k_8)) clk))) (x3_8 ||| (f_X1_stands td (nI k_8) (f_X0_startOf dy (nI k_8)) clk))))
def f_X1_crowdAheadOf (td : XTd) (dy : XDy) (pa : Int32) (clk : Int32) : Int64 := (L_X1_crowdAheadOf_8 td dy pa clk 6 0 (0 : Int64) (0 : Int64)).1
abbrev rm_X1_crowdAheadOf : Room := { frames := 2, cells := 0, slots := 0, locals := 46 }
set_option maxHeartbeats 4000000 in
set_option maxRecDepth 100000 in
theorem c_X1_crowdAheadOf (l : Launch) (D : va_G) (cI cL cZ : ClassId) (ad : Nat → Nat) (A : Nat → Prop) (tx : XTx) (td : XTd) (dr : XTd) (dy : XDy) (lb : (Nat → Int32)) (pn : (Nat × Nat)) (ps : XSh) (ks : XSh) (si : XSi) (kb : Int32) (pa : Int32) (clk : Int32)  : Met l yX1_crowdAheadOf wsX1_crowdAheadOf rm_X1_crowdAheadOf (va_Pc [.ref (ad 18), .int pa, .int clk] (sR D cI cL cZ A (xW cI cL cZ ad tx td dr dy lb pn ps ks si kb))) (vp_Sl (fun r => r = (f_X1_crowdAheadOf td dy pa clk))) 0 0 (fun _ => False) := by
  refine Met.ofW (cc := cX1_crowdAheadOf) (maxL := 10) (ret := (some .long)) (by decide) rfl ?_
  intro p e s m args below meth c s₁ B hml hv
  obtain ⟨rfl, hP, hK, hD, hE⟩ := hv
  have hx := B.exec
  have hb := B.bytes
  have hr := B.returns
  have hts := atoms_spec (ws := wsX1_crowdAheadOf) B.pre
  have hown : s.vm.findClass RX1 = some m.cls := findClass_of_methodNamed B.named
  have hlocks := B.notSynchronized
  have hl := lv_entry ([.ref (ad 18), .int pa, .int clk]) (n := 10) (Nat.le_of_ble_eq_true rfl)
  rw [lg_entry_eq]
  generalize (lg_sl ([.ref (ad 18), .int pa, .int clk]) ++ List.replicate (10 - (lg_sl ([.ref (ad 18), .int pa, .int clk])).length) Slot.unset).toArray = ls at hl ⊢
  have hl : lv_has ls 10 [(0, .ref (ad 18)), (1, .int pa), (2, .int clk)] := hl
  obtain ⟨Q, hQe⟩ : ∃ Q, Q = MQ below (vp_Sl (fun r => r = (f_X1_crowdAheadOf td dy pa clk))) ([.ref (ad 18), .int pa, .int clk] : List Value).toArray s 0 0 (fun _ => False) := ⟨_, rfl⟩
  show W p l e (headSpec wsX1_crowdAheadOf rm_X1_crowdAheadOf).room s m ([.ref (ad 18), .int pa, .int clk] : List Value).toArray below meth c s.heap [] 0 0 (MQ below (vp_Sl (fun r => r = (f_X1_crowdAheadOf td dy pa clk))) ([.ref (ad 18), .int pa, .int clk] : List Value).toArray s 0 0 (fun _ => False)) (F0 m 0 ls [])
  rw [← hQe]
  refine lv_lconst (v := 0) hx hb dX1_crowdAheadOf_0 rfl ?_
  refine lv_lstore_n (lv' := [(3, .long (0 : Int64)), (0, .ref (ad 18)), (1, .int pa), (2, .int clk)]) hx hb dX1_crowdAheadOf_1 rfl hl (by decide) rfl (fun ls hl => ?_)
  refine lv_lconst (v := 0) hx hb dX1_crowdAheadOf_2 rfl ?_
  refine lv_lstore (lv' := [(5, .long (0 : Int64)), (3, .long (0 : Int64)), (0, .ref (ad 18)), (1, .int pa), (2, .int clk)]) hx hb dX1_crowdAheadOf_3 hl (by decide) rfl (fun ls hl => ?_)
  refine lv_iconst (v := nI 0) hx hb dX1_crowdAheadOf_5 rfl ?_
  refine lv_istore (lv' := [(7, .int (nI 0)), (5, .long (0 : Int64)), (3, .long (0 : Int64)), (0, .ref (ad 18)), (1, .int pa), (2, .int clk)]) hx hb dX1_crowdAheadOf_6 hl (by decide) rfl (fun ls hl => ?_)
  obtain ⟨T_8_1, hT_8_1⟩ : ∃ z, z = (L_X1_crowdAheadOf_8 td dy pa clk 6 0 (0 : Int64) (0 : Int64)) := ⟨_, rfl⟩
  have hexit_8 : ∀ (ls : Array Slot), lv_has ls 10 [(5, .long T_8_1.1), (3, .long T_8_1.2), (0, .ref (ad 18)), (1, .int pa), (2, .int clk)] → W p l e (headSpec wsX1_crowdAheadOf rm_X1_crowdAheadOf).room s m ([.ref (ad 18), .int pa, .int clk] : List Value).toArray below meth c s.heap [] 0 0 Q (F0 m 59 ls []) := by
    intro ls hl
    refine lv_lload hx hb dX1_crowdAheadOf_59 (lv_at hl 0 rfl) ?_
    subst hQe
    have hf : (f_X1_crowdAheadOf td dy pa clk) = T_8_1.1 := by rw [f_X1_crowdAheadOf]; (try rw [← hT_8_1]); first | done | rfl
    exact W.lret (v := T_8_1.1) hx hb hr (fun t ht hW => ⟨T_8_1.1, rfl, hf.symm, ht⟩) (fun _ h => by cases h) dX1_crowdAheadOf_61
  have loop_8 : ∀ (n_8 : Nat) (k_8 : Nat) (x5_8 : Int64) (x3_8 : Int64), (k_8 + n_8 = 6) → L_X1_crowdAheadOf_8 td dy pa clk n_8 k_8 x5_8 x3_8 = T_8_1 → ∀ (ls : Array Slot), lv_has ls 10 [(7, .int (nI k_8)), (5, .long x5_8), (3, .long x3_8), (0, .ref (ad 18)), (1, .int pa), (2, .int clk)] → W p l e (headSpec wsX1_crowdAheadOf rm_X1_crowdAheadOf).room s m ([.ref (ad 18), .int pa, .int clk] : List Value).toArray below meth c s.heap [] 0 0 Q (F0 m 8 ls []) := by
    intro n_8
    induction n_8 with
    | zero =>
      intro k_8 x5_8 x3_8 hk_8 hL_8 ls hl
      refine lv_iload hx hb dX1_crowdAheadOf_8 (lv_at hl 0 rfl) ?_
      refine lv_iload_n hx hb dX1_crowdAheadOf_10 rfl (lv_at hl 4 rfl) ?_
      refine lv_icmp_ge (tgt := 59) hx hb dX1_crowdAheadOf_11 (by decide) (fun c_3 => ?_) (fun c_3 => ?_)
      · have e9 : T_8_1 = (x5_8, x3_8) := by rw [← hL_8, L_X1_crowdAheadOf_8, if_pos c_3]
        have hq := hexit_8
        rw [e9] at hq
        exact hq ls  (lv_sub hl [1, 2, 3, 4, 5] rfl)
      · refine lv_iload hx hb dX1_crowdAheadOf_14 (lv_at hl 0 rfl) ?_
        refine lv_bipush (v := nI 6) hx hb dX1_crowdAheadOf_16 rfl ?_
        refine mv_icmp_ge (tgt := 59) hx hb dX1_crowdAheadOf_18 (by decide) (by omega) (by decide) (fun c_4 => ?_) (fun c_4 => (by omega : False).elim)
        have e9 : T_8_1 = (x5_8, x3_8) := by rw [← hL_8, L_X1_crowdAheadOf_8, if_neg c_3]
        have hq := hexit_8
        rw [e9] at hq
        exact hq ls  (lv_sub hl [1, 2, 3, 4, 5] rfl)
    | succ n_8 ih_8 =>
      intro k_8 x5_8 x3_8 hk_8 hL_8 ls hl
      refine lv_iload hx hb dX1_crowdAheadOf_8 (lv_at hl 0 rfl) ?_
      refine lv_iload_n hx hb dX1_crowdAheadOf_10 rfl (lv_at hl 4 rfl) ?_
      refine lv_icmp_ge (tgt := 59) hx hb dX1_crowdAheadOf_11 (by decide) (fun c_1 => ?_) (fun c_1 => ?_)
      · have e9 : T_8_1 = (x5_8, x3_8) := by rw [← hL_8, L_X1_crowdAheadOf_8, if_pos c_1]
        have hq := hexit_8
        rw [e9] at hq
        exact hq ls  (lv_sub hl [1, 2, 3, 4, 5] rfl)
      · refine lv_iload hx hb dX1_crowdAheadOf_14 (lv_at hl 0 rfl) ?_
        refine lv_bipush (v := nI 6) hx hb dX1_crowdAheadOf_16 rfl ?_
        refine mv_icmp_ge (tgt := 59) hx hb dX1_crowdAheadOf_18 (by decide) (by omega) (by decide) (fun c_2 => (by omega : False).elim) (fun c_2 => ?_)
        refine lv_aload_n hx hb dX1_crowdAheadOf_21 rfl (lv_at hl 3 rfl) ?_
        refine lv_iload hx hb dX1_crowdAheadOf_22 (lv_at hl 0 rfl) ?_
        refine lv_aload_n hx hb dX1_crowdAheadOf_24 rfl (lv_at hl 3 rfl) ?_
        refine va_get (D := D) (ci := 1) (v := .ref (ad 15)) (C := RX1) (T := TX1) (N := 3) hx hb hts (by decide +kernel) hown hK hP 18 rfl rfl 1 (by decide) (hts (.fieldLink RX1 19 "SummitTime$Ledger" "day" "LSummitTime$Day;") (by decide +kernel)) (fun _ h9 => h9) rfl dX1_crowdAheadOf_25 ?_
        refine lv_iload hx hb dX1_crowdAheadOf_28 (lv_at hl 0 rfl) ?_
        refine vp_callSi (va_Run.run (va_runV (As := [.int (nI k_8)]) (rest := [.int (nI k_8), .ref (ad 18)]) ⟨hx, hb, hml, hown, hts⟩ (c_X0_startOf l D cI cL cZ ad A tx td dr dy lb pn ps ks si kb (nI k_8) ) (cwV 1 hts gX1_crowdAheadOf_X0_startOf rfl rfl rfl (by decide +kernel) ⟨Nat.le_of_ble_eq_true rfl, Nat.le_of_ble_eq_true rfl⟩) ⟨sR_fb, va_recv hK hP (ci := 0) (q0 := 15) rfl rfl, sR_at hP hK hD hE⟩ rfl rfl hl.1 rfl (lv_room (Nat.le_of_ble_eq_true rfl)) dX1_crowdAheadOf_30 ⟨Nat.zero_le _, Nat.zero_le _⟩)) (fun r hr => ?_)
        subst hr
        refine lv_iload_n hx hb dX1_crowdAheadOf_33 rfl (lv_at hl 5 rfl) ?_
        refine vp_callSl (va_Run.run (va_runV (As := [.int (nI k_8), .int (f_X0_startOf dy (nI k_8)), .int clk]) (rest := []) ⟨hx, hb, hml, hown, hts⟩ (c_X1_stands l D cI cL cZ ad A tx td dr dy lb pn ps ks si kb (nI k_8) (f_X0_startOf dy (nI k_8)) clk ) (cwV 3 hts gX1_crowdAheadOf_X1_stands rfl rfl rfl (by decide +kernel) ⟨Nat.le_of_ble_eq_true rfl, Nat.le_of_ble_eq_true rfl⟩) ⟨sR_fb, va_recv hK hP (ci := 1) (q0 := 18) rfl rfl, sR_at hP hK hD hE⟩ rfl rfl hl.1 rfl (lv_room (Nat.le_of_ble_eq_true rfl)) dX1_crowdAheadOf_34 ⟨Nat.zero_le _, Nat.zero_le _⟩)) (fun r hr => ?_)
        subst hr
        refine lv_lstore (lv' := [(8, .long (f_X1_stands td (nI k_8) (f_X0_startOf dy (nI k_8)) clk)), (7, .int (nI k_8)), (5, .long x5_8), (3, .long x3_8), (0, .ref (ad 18)), (1, .int pa), (2, .int clk)]) hx hb dX1_crowdAheadOf_37 hl (by decide) rfl (fun ls hl => ?_)
        refine lv_lload hx hb dX1_crowdAheadOf_39 (lv_at hl 2 rfl) ?_
        refine lv_lload_n hx hb dX1_crowdAheadOf_41 rfl (lv_at hl 3 rfl) ?_
        refine lv_lload hx hb dX1_crowdAheadOf_42 (lv_at hl 0 rfl) ?_
        refine lv_land hx hb dX1_crowdAheadOf_44 ?_
        refine lv_lor hx hb dX1_crowdAheadOf_45 ?_
        refine lv_lstore (lv' := [(5, .long (x5_8 ||| (x3_8 &&& (f_X1_stands td (nI k_8) (f_X0_startOf dy (nI k_8)) clk)))), (8, .long (f_X1_stands td (nI k_8) (f_X0_startOf dy (nI k_8)) clk)), (7, .int (nI k_8)), (3, .long x3_8), (0, .ref (ad 18)), (1, .int pa), (2, .int clk)]) hx hb dX1_crowdAheadOf_46 hl (by decide) rfl (fun ls hl => ?_)
        refine lv_lload_n hx hb dX1_crowdAheadOf_48 rfl (lv_at hl 3 rfl) ?_
        refine lv_lload hx hb dX1_crowdAheadOf_49 (lv_at hl 1 rfl) ?_
        refine lv_lor hx hb dX1_crowdAheadOf_51 ?_
        refine lv_lstore_n (lv' := [(3, .long (x3_8 ||| (f_X1_stands td (nI k_8) (f_X0_startOf dy (nI k_8)) clk))), (5, .long (x5_8 ||| (x3_8 &&& (f_X1_stands td (nI k_8) (f_X0_startOf dy (nI k_8)) clk)))), (8, .long (f_X1_stands td (nI k_8) (f_X0_startOf dy (nI k_8)) clk)), (7, .int (nI k_8)), (0, .ref (ad 18)), (1, .int pa), (2, .int clk)]) hx hb dX1_crowdAheadOf_52 rfl hl (by decide) rfl (fun ls hl => ?_)
        refine mv_iinc (y := k_8 + 1) (lv' := [(7, .int (nI (k_8 + 1))), (3, .long (x3_8 ||| (f_X1_stands td (nI k_8) (f_X0_startOf dy (nI k_8)) clk))), (5, .long (x5_8 ||| (x3_8 &&& (f_X1_stands td (nI k_8) (f_X0_startOf dy (nI k_8)) clk)))), (8, .long (f_X1_stands td (nI k_8) (f_X0_startOf dy (nI k_8)) clk)), (0, .ref (ad 18)), (1, .int pa), (2, .int clk)]) hx hb dX1_crowdAheadOf_53 hl (k := 3) rfl (nI_p1 _) (by decide) rfl (fun ls hl => ?_)
        refine lv_goto (tgt := 8) hx hb dX1_crowdAheadOf_56 (by decide) ?_
        exact ih_8 (k_8 + 1) (x5_8 ||| (x3_8 &&& (f_X1_stands td (nI k_8) (f_X0_startOf dy (nI k_8)) clk))) (x3_8 ||| (f_X1_stands td (nI k_8) (f_X0_startOf dy (nI k_8)) clk)) (by omega) (by have e9 := hL_8; rw [L_X1_crowdAheadOf_8, if_neg c_1] at e9; exact e9) ls (lv_sub hl [0, 2, 1, 4, 5, 6] rfl)
  exact loop_8 6 0 (0 : Int64) (0 : Int64) (by omega) hT_8_1.symm ls (lv_sub hl [0, 1, 2, 3, 4, 5] rfl)
def f_X1_costly (td : XTd) (dy : XDy) (pa : Int32) : Int64 := (if (f_X6_kindOf td pa) = nI 2 then ((((1152921504606846975 : Int64) &&& (td.2.2.2.2.2.2 ^^^ (-1 : Int64))) &&& ((f_X0_landOf dy pa) ^^^ (-1 : Int64))) &&& (1125899906842623 : Int64)) else (((1152921504606846975 : Int64) &&& (td.2.2.2.2.2.2 ^^^ (-1 : Int64))) &&& ((f_X0_landOf dy pa) ^^^ (-1 : Int64))))
abbrev rm_X1_costly : Room := { frames := 1, cells := 0, slots := 0, locals := 21 }
set_option maxHeartbeats 4000000 in
set_option maxRecDepth 100000 in
theorem c_X1_costly (l : Launch) (D : va_G) (cI cL cZ : ClassId) (ad : Nat → Nat) (A : Nat → Prop) (tx : XTx) (td : XTd) (dr : XTd) (dy : XDy) (lb : (Nat → Int32)) (pn : (Nat × Nat)) (ps : XSh) (ks : XSh) (si : XSi) (kb : Int32) (pa : Int32)  : Met l yX1_costly wsX1_costly rm_X1_costly (va_Pc [.ref (ad 18), .int pa] (sR D cI cL cZ A (xW cI cL cZ ad tx td dr dy lb pn ps ks si kb))) (vp_Sl (fun r => r = (f_X1_costly td dy pa))) 0 0 (fun _ => False) := by
  refine Met.ofW (cc := cX1_costly) (maxL := 4) (ret := (some .long)) (by decide) rfl ?_
  intro p e s m args below meth c s₁ B hml hv
  obtain ⟨rfl, hP, hK, hD, hE⟩ := hv
  have hx := B.exec
  have hb := B.bytes
  have hr := B.returns
  have hts := atoms_spec (ws := wsX1_costly) B.pre
  have hown : s.vm.findClass RX1 = some m.cls := findClass_of_methodNamed B.named
  have hlocks := B.notSynchronized
  have hl := lv_entry ([.ref (ad 18), .int pa]) (n := 4) (Nat.le_of_ble_eq_true rfl)
  rw [lg_entry_eq]
  generalize (lg_sl ([.ref (ad 18), .int pa]) ++ List.replicate (4 - (lg_sl ([.ref (ad 18), .int pa])).length) Slot.unset).toArray = ls at hl ⊢
  have hl : lv_has ls 4 [(0, .ref (ad 18)), (1, .int pa)] := hl
  refine lv_ldc2 (v := (1152921504606846975)) hx hb hown (hts (.constantLong RX1 45 (1152921504606846975)) (by decide +kernel)) dX1_costly_0 ?_
  refine lv_aload_n hx hb dX1_costly_3 rfl (lv_at hl 0 rfl) ?_
  refine va_get (D := D) (ci := 1) (v := .ref (ad 3)) (C := RX1) (T := TX1) (N := 3) hx hb hts (by decide +kernel) hown hK hP 18 rfl rfl 0 (by decide) (hts (.fieldLink RX1 15 "SummitTime$Ledger" "told" "LSummitTime$Told;") (by decide +kernel)) (fun _ h9 => h9) rfl dX1_costly_4 ?_
  refine va_getN (D := D) (ci := 6) (v := .long td.2.2.2.2.2.2) (C := RX6) (T := TX6) (N := 7) hx hb hts (by decide +kernel) hown hK hP 3 rfl rfl 6 (by decide) (va_Nw.use rfl hE.2.1) (fun _ h9 => h9) rfl dX1_costly_7 ?_
  refine lv_ldc2 (v := (-1)) hx hb hown (hts (.constantLong RX1 51 (-1)) (by decide +kernel)) dX1_costly_10 ?_
  refine lv_lxor hx hb dX1_costly_13 ?_
  refine lv_land hx hb dX1_costly_14 ?_
  refine lv_aload_n hx hb dX1_costly_15 rfl (lv_at hl 0 rfl) ?_
  refine va_get (D := D) (ci := 1) (v := .ref (ad 15)) (C := RX1) (T := TX1) (N := 3) hx hb hts (by decide +kernel) hown hK hP 18 rfl rfl 1 (by decide) (hts (.fieldLink RX1 19 "SummitTime$Ledger" "day" "LSummitTime$Day;") (by decide +kernel)) (fun _ h9 => h9) rfl dX1_costly_16 ?_
  refine lv_iload_n hx hb dX1_costly_19 rfl (lv_at hl 1 rfl) ?_
  refine vp_callSl (va_Run.run (va_runV (As := [.int pa]) (rest := [.long ((1152921504606846975 : Int64) &&& (td.2.2.2.2.2.2 ^^^ (-1 : Int64)))]) ⟨hx, hb, hml, hown, hts⟩ (c_X0_landOf l D cI cL cZ ad A tx td dr dy lb pn ps ks si kb pa ) (cwV 1 hts gX1_costly_X0_landOf rfl rfl rfl (by decide +kernel) ⟨Nat.le_of_ble_eq_true rfl, Nat.le_of_ble_eq_true rfl⟩) ⟨sR_fb, va_recv hK hP (ci := 0) (q0 := 15) rfl rfl, sR_at hP hK hD hE⟩ rfl rfl hl.1 rfl (lv_room (Nat.le_of_ble_eq_true rfl)) dX1_costly_20 ⟨Nat.zero_le _, Nat.zero_le _⟩)) (fun r hr => ?_)
  subst hr
  refine lv_ldc2 (v := (-1)) hx hb hown (hts (.constantLong RX1 51 (-1)) (by decide +kernel)) dX1_costly_23 ?_
  refine lv_lxor hx hb dX1_costly_26 ?_
  refine lv_land hx hb dX1_costly_27 ?_
  refine lv_lstore_n (lv' := [(2, .long (((1152921504606846975 : Int64) &&& (td.2.2.2.2.2.2 ^^^ (-1 : Int64))) &&& ((f_X0_landOf dy pa) ^^^ (-1 : Int64)))), (0, .ref (ad 18)), (1, .int pa)]) hx hb dX1_costly_28 rfl hl (by decide) rfl (fun ls hl => ?_)
  refine lv_aload_n hx hb dX1_costly_29 rfl (lv_at hl 1 rfl) ?_
  refine va_get (D := D) (ci := 1) (v := .ref (ad 3)) (C := RX1) (T := TX1) (N := 3) hx hb hts (by decide +kernel) hown hK hP 18 rfl rfl 0 (by decide) (hts (.fieldLink RX1 15 "SummitTime$Ledger" "told" "LSummitTime$Told;") (by decide +kernel)) (fun _ h9 => h9) rfl dX1_costly_30 ?_
  refine lv_iload_n hx hb dX1_costly_33 rfl (lv_at hl 2 rfl) ?_
  refine vp_callSi (va_Run.run (va_runV (As := [.int pa]) (rest := []) ⟨hx, hb, hml, hown, hts⟩ (c_X6_kindOf l D cI cL cZ ad A tx td dr dy lb pn ps ks si kb pa ) (cwV 1 hts gX1_costly_X6_kindOf rfl rfl rfl (by decide +kernel) ⟨Nat.le_of_ble_eq_true rfl, Nat.le_of_ble_eq_true rfl⟩) ⟨sR_fb, va_recv hK hP (ci := 6) (q0 := 3) rfl rfl, sR_at hP hK hD hE⟩ rfl rfl hl.1 rfl (lv_room (Nat.le_of_ble_eq_true rfl)) dX1_costly_34 ⟨Nat.zero_le _, Nat.zero_le _⟩)) (fun r hr => ?_)
  subst hr
  refine lv_iconst (v := nI 2) hx hb dX1_costly_37 rfl ?_
  refine mv_phil (v := (if (f_X6_kindOf td pa) = nI 2 then ((((1152921504606846975 : Int64) &&& (td.2.2.2.2.2.2 ^^^ (-1 : Int64))) &&& ((f_X0_landOf dy pa) ^^^ (-1 : Int64))) &&& (1125899906842623 : Int64)) else (((1152921504606846975 : Int64) &&& (td.2.2.2.2.2.2 ^^^ (-1 : Int64))) &&& ((f_X0_landOf dy pa) ^^^ (-1 : Int64))))) (pcj := 50) (ls := ls) (rest' := []) ?_ (fun J_1 => ?_)
  · have hf : (f_X1_costly td dy pa) = (if (f_X6_kindOf td pa) = nI 2 then ((((1152921504606846975 : Int64) &&& (td.2.2.2.2.2.2 ^^^ (-1 : Int64))) &&& ((f_X0_landOf dy pa) ^^^ (-1 : Int64))) &&& (1125899906842623 : Int64)) else (((1152921504606846975 : Int64) &&& (td.2.2.2.2.2.2 ^^^ (-1 : Int64))) &&& ((f_X0_landOf dy pa) ^^^ (-1 : Int64)))) := by rw [f_X1_costly]
    exact W.lret (v := (if (f_X6_kindOf td pa) = nI 2 then ((((1152921504606846975 : Int64) &&& (td.2.2.2.2.2.2 ^^^ (-1 : Int64))) &&& ((f_X0_landOf dy pa) ^^^ (-1 : Int64))) &&& (1125899906842623 : Int64)) else (((1152921504606846975 : Int64) &&& (td.2.2.2.2.2.2 ^^^ (-1 : Int64))) &&& ((f_X0_landOf dy pa) ^^^ (-1 : Int64))))) hx hb hr (fun t ht hW => ⟨(if (f_X6_kindOf td pa) = nI 2 then ((((1152921504606846975 : Int64) &&& (td.2.2.2.2.2.2 ^^^ (-1 : Int64))) &&& ((f_X0_landOf dy pa) ^^^ (-1 : Int64))) &&& (1125899906842623 : Int64)) else (((1152921504606846975 : Int64) &&& (td.2.2.2.2.2.2 ^^^ (-1 : Int64))) &&& ((f_X0_landOf dy pa) ^^^ (-1 : Int64)))), rfl, hf.symm, ht⟩) (fun _ h => by cases h) dX1_costly_50
  · refine lv_icmp_ne (tgt := 49) hx hb dX1_costly_38 (by decide) (fun c_2 => ?_) (fun c_2 => ?_)
    · refine lv_lload_n hx hb dX1_costly_49 rfl (lv_at hl 0 rfl) ?_
      exact J_1 _ (by rw [if_neg c_2])
    · refine lv_lload_n hx hb dX1_costly_41 rfl (lv_at hl 0 rfl) ?_
      refine lv_ldc2 (v := (1125899906842623)) hx hb hown (hts (.constantLong RX1 60 (1125899906842623)) (by decide +kernel)) dX1_costly_42 ?_
      refine lv_land hx hb dX1_costly_45 ?_
      refine lv_goto (tgt := 50) hx hb dX1_costly_46 (by decide) ?_
      exact J_1 _ (by rw [if_pos c_2])
def L_X1_costOf_15 (td : XTd) (dy : XDy) (pa : Int32) (sx : Int64) : Nat → Nat → Int32 → Int32
  | 0, _, x6_15 => x6_15
  | n_15 + 1, k_15, x6_15 => (L_X1_costOf_15 td dy pa sx n_15 (k_15 + 1) (x6_15 + ((f_J13_bitCount_95d88 ((sx &&& (f_X1_costly td dy pa)) &&& (f_X0_landOf dy (nI k_15)))) * (f_X6_tollOf td (nI k_15)))))
def f_X1_costOf (td : XTd) (dy : XDy) (pa : Int32) (sx : Int64) : Int32 := (L_X1_costOf_15 td dy pa sx td.2.2.2.2.2.1 0 (nI 0))
abbrev rm_X1_costOf : Room := { frames := 2, cells := 0, slots := 0, locals := 44 }
set_option maxHeartbeats 4000000 in
set_option maxRecDepth 100000 in
theorem c_X1_costOf (l : Launch) (D : va_G) (cI cL cZ : ClassId) (ad : Nat → Nat) (A : Nat → Prop) (tx : XTx) (td : XTd) (dr : XTd) (dy : XDy) (lb : (Nat → Int32)) (pn : (Nat × Nat)) (ps : XSh) (ks : XSh) (si : XSi) (kb : Int32) (pa : Int32) (sx : Int64) (hpe : td.2.2.2.2.2.1 ≤ 6) : Met l yX1_costOf wsX1_costOf rm_X1_costOf (va_Pc [.ref (ad 18), .int pa, .long sx] (sR D cI cL cZ A (xW cI cL cZ ad tx td dr dy lb pn ps ks si kb))) (vp_Si (fun r => r = (f_X1_costOf td dy pa sx))) 0 0 (fun _ => False) := by
  refine Met.ofW (cc := cX1_costOf) (maxL := 8) (ret := (some .int)) (by decide) rfl ?_
  intro p e s m args below meth c s₁ B hml hv
  obtain ⟨rfl, hP, hK, hD, hE⟩ := hv
  have hx := B.exec
  have hb := B.bytes
  have hr := B.returns
  have hts := atoms_spec (ws := wsX1_costOf) B.pre
  have hown : s.vm.findClass RX1 = some m.cls := findClass_of_methodNamed B.named
  have hlocks := B.notSynchronized
  have hl := lv_entry ([.ref (ad 18), .int pa, .long sx]) (n := 8) (Nat.le_of_ble_eq_true rfl)
  rw [lg_entry_eq]
  generalize (lg_sl ([.ref (ad 18), .int pa, .long sx]) ++ List.replicate (8 - (lg_sl ([.ref (ad 18), .int pa, .long sx])).length) Slot.unset).toArray = ls at hl ⊢
  have hl : lv_has ls 8 [(0, .ref (ad 18)), (1, .int pa), (2, .long sx)] := hl
  obtain ⟨Q, hQe⟩ : ∃ Q, Q = MQ below (vp_Si (fun r => r = (f_X1_costOf td dy pa sx))) ([.ref (ad 18), .int pa, .long sx] : List Value).toArray s 0 0 (fun _ => False) := ⟨_, rfl⟩
  show W p l e (headSpec wsX1_costOf rm_X1_costOf).room s m ([.ref (ad 18), .int pa, .long sx] : List Value).toArray below meth c s.heap [] 0 0 (MQ below (vp_Si (fun r => r = (f_X1_costOf td dy pa sx))) ([.ref (ad 18), .int pa, .long sx] : List Value).toArray s 0 0 (fun _ => False)) (F0 m 0 ls [])
  rw [← hQe]
  refine lv_lload_n hx hb dX1_costOf_0 rfl (lv_at hl 2 rfl) ?_
  refine lv_aload_n hx hb dX1_costOf_1 rfl (lv_at hl 0 rfl) ?_
  refine lv_iload_n hx hb dX1_costOf_2 rfl (lv_at hl 1 rfl) ?_
  refine vp_callSl (va_Run.run (va_runV (As := [.int pa]) (rest := [.long sx]) ⟨hx, hb, hml, hown, hts⟩ (c_X1_costly l D cI cL cZ ad A tx td dr dy lb pn ps ks si kb pa ) (cwV 1 hts gX1_costOf_X1_costly rfl rfl rfl (by decide +kernel) ⟨Nat.le_of_ble_eq_true rfl, Nat.le_of_ble_eq_true rfl⟩) ⟨sR_fb, va_recv hK hP (ci := 1) (q0 := 18) rfl rfl, sR_at hP hK hD hE⟩ rfl rfl hl.1 rfl (lv_room (Nat.le_of_ble_eq_true rfl)) dX1_costOf_3 ⟨Nat.zero_le _, Nat.zero_le _⟩)) (fun r hr => ?_)
  subst hr
  refine lv_land hx hb dX1_costOf_6 ?_
  refine lv_lstore (lv' := [(4, .long (sx &&& (f_X1_costly td dy pa))), (0, .ref (ad 18)), (1, .int pa), (2, .long sx)]) hx hb dX1_costOf_7 hl (by decide) rfl (fun ls hl => ?_)
  refine lv_iconst (v := nI 0) hx hb dX1_costOf_9 rfl ?_
  refine lv_istore (lv' := [(6, .int (nI 0)), (4, .long (sx &&& (f_X1_costly td dy pa))), (0, .ref (ad 18)), (1, .int pa), (2, .long sx)]) hx hb dX1_costOf_10 hl (by decide) rfl (fun ls hl => ?_)
  refine lv_iconst (v := nI 0) hx hb dX1_costOf_12 rfl ?_
  refine lv_istore (lv' := [(7, .int (nI 0)), (6, .int (nI 0)), (4, .long (sx &&& (f_X1_costly td dy pa))), (0, .ref (ad 18)), (1, .int pa), (2, .long sx)]) hx hb dX1_costOf_13 hl (by decide) rfl (fun ls hl => ?_)
  obtain ⟨T_15_1, hT_15_1⟩ : ∃ z, z = (L_X1_costOf_15 td dy pa sx td.2.2.2.2.2.1 0 (nI 0)) := ⟨_, rfl⟩
  have hexit_15 : ∀ (ls : Array Slot), lv_has ls 8 [(6, .int T_15_1), (4, .long (sx &&& (f_X1_costly td dy pa))), (0, .ref (ad 18)), (1, .int pa), (2, .long sx)] → W p l e (headSpec wsX1_costOf rm_X1_costOf).room s m ([.ref (ad 18), .int pa, .long sx] : List Value).toArray below meth c s.heap [] 0 0 Q (F0 m 63 ls []) := by
    intro ls hl
    refine lv_iload hx hb dX1_costOf_63 (lv_at hl 0 rfl) ?_
    subst hQe
    have hf : (f_X1_costOf td dy pa sx) = T_15_1 := by rw [f_X1_costOf]; (try rw [← hT_15_1]); first | done | rfl
    exact W.iret (v := T_15_1) hx hb hr (fun t ht hW => ⟨T_15_1, rfl, hf.symm, ht⟩) (fun _ h => by cases h) dX1_costOf_65
  have loop_15 : ∀ (n_15 : Nat) (k_15 : Nat) (x6_15 : Int32), (k_15 + n_15 = td.2.2.2.2.2.1) → L_X1_costOf_15 td dy pa sx n_15 k_15 x6_15 = T_15_1 → ∀ (ls : Array Slot), lv_has ls 8 [(7, .int (nI k_15)), (6, .int x6_15), (4, .long (sx &&& (f_X1_costly td dy pa))), (0, .ref (ad 18)), (1, .int pa), (2, .long sx)] → W p l e (headSpec wsX1_costOf rm_X1_costOf).room s m ([.ref (ad 18), .int pa, .long sx] : List Value).toArray below meth c s.heap [] 0 0 Q (F0 m 15 ls []) := by
    intro n_15
    induction n_15 with
    | zero =>
      intro k_15 x6_15 hk_15 hL_15 ls hl
      refine lv_iload hx hb dX1_costOf_15 (lv_at hl 0 rfl) ?_
      refine lv_aload_n hx hb dX1_costOf_17 rfl (lv_at hl 3 rfl) ?_
      refine va_get (D := D) (ci := 1) (v := .ref (ad 3)) (C := RX1) (T := TX1) (N := 3) hx hb hts (by decide +kernel) hown hK hP 18 rfl rfl 0 (by decide) (hts (.fieldLink RX1 15 "SummitTime$Ledger" "told" "LSummitTime$Told;") (by decide +kernel)) (fun _ h9 => h9) rfl dX1_costOf_18 ?_
      refine va_getN (D := D) (ci := 6) (v := .int (nI td.2.2.2.2.2.1)) (C := RX6) (T := TX6) (N := 7) hx hb hts (by decide +kernel) hown hK hP 3 rfl rfl 5 (by decide) (va_Nw.use rfl hE.2.2.1) (fun _ h9 => h9) rfl dX1_costOf_21 ?_
      refine mv_icmp_ge (tgt := 63) hx hb dX1_costOf_24 (by decide) (by omega) (by omega) (fun c_2 => ?_) (fun c_2 => (by omega : False).elim)
      have e9 : T_15_1 = x6_15 := by rw [← hL_15, L_X1_costOf_15]
      have hq := hexit_15
      rw [e9] at hq
      exact hq ls  (lv_sub hl [1, 2, 3, 4, 5] rfl)
    | succ n_15 ih_15 =>
      intro k_15 x6_15 hk_15 hL_15 ls hl
      refine lv_iload hx hb dX1_costOf_15 (lv_at hl 0 rfl) ?_
      refine lv_aload_n hx hb dX1_costOf_17 rfl (lv_at hl 3 rfl) ?_
      refine va_get (D := D) (ci := 1) (v := .ref (ad 3)) (C := RX1) (T := TX1) (N := 3) hx hb hts (by decide +kernel) hown hK hP 18 rfl rfl 0 (by decide) (hts (.fieldLink RX1 15 "SummitTime$Ledger" "told" "LSummitTime$Told;") (by decide +kernel)) (fun _ h9 => h9) rfl dX1_costOf_18 ?_
      refine va_getN (D := D) (ci := 6) (v := .int (nI td.2.2.2.2.2.1)) (C := RX6) (T := TX6) (N := 7) hx hb hts (by decide +kernel) hown hK hP 3 rfl rfl 5 (by decide) (va_Nw.use rfl hE.2.2.1) (fun _ h9 => h9) rfl dX1_costOf_21 ?_
      refine mv_icmp_ge (tgt := 63) hx hb dX1_costOf_24 (by decide) (by omega) (by omega) (fun c_1 => (by omega : False).elim) (fun c_1 => ?_)
      refine lv_iload hx hb dX1_costOf_27 (lv_at hl 1 rfl) ?_
      refine lv_lload hx hb dX1_costOf_29 (lv_at hl 2 rfl) ?_
      refine lv_aload_n hx hb dX1_costOf_31 rfl (lv_at hl 3 rfl) ?_
      refine va_get (D := D) (ci := 1) (v := .ref (ad 15)) (C := RX1) (T := TX1) (N := 3) hx hb hts (by decide +kernel) hown hK hP 18 rfl rfl 1 (by decide) (hts (.fieldLink RX1 19 "SummitTime$Ledger" "day" "LSummitTime$Day;") (by decide +kernel)) (fun _ h9 => h9) rfl dX1_costOf_32 ?_
      refine lv_iload hx hb dX1_costOf_35 (lv_at hl 0 rfl) ?_
      refine vp_callSl (va_Run.run (va_runV (As := [.int (nI k_15)]) (rest := [.long (sx &&& (f_X1_costly td dy pa)), .int x6_15]) ⟨hx, hb, hml, hown, hts⟩ (c_X0_landOf l D cI cL cZ ad A tx td dr dy lb pn ps ks si kb (nI k_15) ) (cwV 1 hts gX1_costOf_X0_landOf rfl rfl rfl (by decide +kernel) ⟨Nat.le_of_ble_eq_true rfl, Nat.le_of_ble_eq_true rfl⟩) ⟨sR_fb, va_recv hK hP (ci := 0) (q0 := 15) rfl rfl, sR_at hP hK hD hE⟩ rfl rfl hl.1 rfl (lv_room (Nat.le_of_ble_eq_true rfl)) dX1_costOf_37 ⟨Nat.zero_le _, Nat.zero_le _⟩)) (fun r hr => ?_)
      subst hr
      refine lv_land hx hb dX1_costOf_40 ?_
      refine vp_callSi (va_Run.run (va_runS (As := [.long ((sx &&& (f_X1_costly td dy pa)) &&& (f_X0_landOf dy (nI k_15)))]) (rest := [.int x6_15]) ⟨hx, hb, hml, hown, hts⟩ (c_J13_bitCount_95d88 l ((sx &&& (f_X1_costly td dy pa)) &&& (f_X0_landOf dy (nI k_15))) ) (va_cwS 1 hts gX1_costOf_J13_bitCount_95d88 rfl rfl rfl (by decide +kernel) ⟨Nat.le_of_ble_eq_true rfl, Nat.le_of_ble_eq_true rfl⟩) ⟨pR_fb, pR_at⟩ rfl rfl hl.1 rfl (lv_room (Nat.le_of_ble_eq_true rfl)) dX1_costOf_41 ⟨Nat.zero_le _, Nat.zero_le _⟩)) (fun r hr => ?_)
      subst hr
      refine lv_aload_n hx hb dX1_costOf_44 rfl (lv_at hl 3 rfl) ?_
      refine va_get (D := D) (ci := 1) (v := .ref (ad 3)) (C := RX1) (T := TX1) (N := 3) hx hb hts (by decide +kernel) hown hK hP 18 rfl rfl 0 (by decide) (hts (.fieldLink RX1 15 "SummitTime$Ledger" "told" "LSummitTime$Told;") (by decide +kernel)) (fun _ h9 => h9) rfl dX1_costOf_45 ?_
      refine lv_iload hx hb dX1_costOf_48 (lv_at hl 0 rfl) ?_
      refine vp_callSi (va_Run.run (va_runV (As := [.int (nI k_15)]) (rest := [.int (f_J13_bitCount_95d88 ((sx &&& (f_X1_costly td dy pa)) &&& (f_X0_landOf dy (nI k_15)))), .int x6_15]) ⟨hx, hb, hml, hown, hts⟩ (c_X6_tollOf l D cI cL cZ ad A tx td dr dy lb pn ps ks si kb (nI k_15) ) (cwV 1 hts gX1_costOf_X6_tollOf rfl rfl rfl (by decide +kernel) ⟨Nat.le_of_ble_eq_true rfl, Nat.le_of_ble_eq_true rfl⟩) ⟨sR_fb, va_recv hK hP (ci := 6) (q0 := 3) rfl rfl, sR_at hP hK hD hE⟩ rfl rfl hl.1 rfl (lv_room (Nat.le_of_ble_eq_true rfl)) dX1_costOf_50 ⟨Nat.zero_le _, Nat.zero_le _⟩)) (fun r hr => ?_)
      subst hr
      refine lv_imul hx hb dX1_costOf_53 ?_
      refine lv_iadd hx hb dX1_costOf_54 ?_
      refine lv_istore (lv' := [(6, .int (x6_15 + ((f_J13_bitCount_95d88 ((sx &&& (f_X1_costly td dy pa)) &&& (f_X0_landOf dy (nI k_15)))) * (f_X6_tollOf td (nI k_15))))), (7, .int (nI k_15)), (4, .long (sx &&& (f_X1_costly td dy pa))), (0, .ref (ad 18)), (1, .int pa), (2, .long sx)]) hx hb dX1_costOf_55 hl (by decide) rfl (fun ls hl => ?_)
      refine mv_iinc (y := k_15 + 1) (lv' := [(7, .int (nI (k_15 + 1))), (6, .int (x6_15 + ((f_J13_bitCount_95d88 ((sx &&& (f_X1_costly td dy pa)) &&& (f_X0_landOf dy (nI k_15)))) * (f_X6_tollOf td (nI k_15))))), (4, .long (sx &&& (f_X1_costly td dy pa))), (0, .ref (ad 18)), (1, .int pa), (2, .long sx)]) hx hb dX1_costOf_57 hl (k := 1) rfl (nI_p1 _) (by decide) rfl (fun ls hl => ?_)
      refine lv_goto (tgt := 15) hx hb dX1_costOf_60 (by decide) ?_
      exact ih_15 (k_15 + 1) (x6_15 + ((f_J13_bitCount_95d88 ((sx &&& (f_X1_costly td dy pa)) &&& (f_X0_landOf dy (nI k_15)))) * (f_X6_tollOf td (nI k_15)))) (by omega) (by have e9 := hL_15; rw [L_X1_costOf_15] at e9; exact e9) ls (lv_sub hl [0, 1, 2, 3, 4, 5] rfl)
  exact loop_15 td.2.2.2.2.2.1 0 (nI 0) (by omega) hT_15_1.symm ls (lv_sub hl [0, 1, 2, 3, 4, 5] rfl)
def L_X1_freeFor_5 (td : XTd) (dy : XDy) : Nat → Nat → Int64 → Int64
  | 0, _, x2_5 => x2_5
  | n_5 + 1, k_5, x2_5 => (if (f_X6_tollOf td (nI k_5)) ≤ 0 then (L_X1_freeFor_5 td dy n_5 (k_5 + 1) x2_5) else (L_X1_freeFor_5 td dy n_5 (k_5 + 1) (x2_5 ||| (f_X0_landOf dy (nI k_5)))))
def f_X1_freeFor (td : XTd) (dy : XDy) (pa : Int32) : Int64 := ((1152921504606846975 : Int64) &&& (((L_X1_freeFor_5 td dy td.2.2.2.2.2.1 0 (0 : Int64)) &&& (f_X1_costly td dy pa)) ^^^ (-1 : Int64)))
abbrev rm_X1_freeFor : Room := { frames := 2, cells := 0, slots := 0, locals := 44 }
set_option maxHeartbeats 4000000 in
set_option maxRecDepth 100000 in
theorem c_X1_freeFor (l : Launch) (D : va_G) (cI cL cZ : ClassId) (ad : Nat → Nat) (A : Nat → Prop) (tx : XTx) (td : XTd) (dr : XTd) (dy : XDy) (lb : (Nat → Int32)) (pn : (Nat × Nat)) (ps : XSh) (ks : XSh) (si : XSi) (kb : Int32) (pa : Int32) (hpe : td.2.2.2.2.2.1 ≤ 6) : Met l yX1_freeFor wsX1_freeFor rm_X1_freeFor (va_Pc [.ref (ad 18), .int pa] (sR D cI cL cZ A (xW cI cL cZ ad tx td dr dy lb pn ps ks si kb))) (vp_Sl (fun r => r = (f_X1_freeFor td dy pa))) 0 0 (fun _ => False) := by
  refine Met.ofW (cc := cX1_freeFor) (maxL := 5) (ret := (some .long)) (by decide) rfl ?_
  intro p e s m args below meth c s₁ B hml hv
  obtain ⟨rfl, hP, hK, hD, hE⟩ := hv
  have hx := B.exec
  have hb := B.bytes
  have hr := B.returns
  have hts := atoms_spec (ws := wsX1_freeFor) B.pre
  have hown : s.vm.findClass RX1 = some m.cls := findClass_of_methodNamed B.named
  have hlocks := B.notSynchronized
  have hl := lv_entry ([.ref (ad 18), .int pa]) (n := 5) (Nat.le_of_ble_eq_true rfl)
  rw [lg_entry_eq]
  generalize (lg_sl ([.ref (ad 18), .int pa]) ++ List.replicate (5 - (lg_sl ([.ref (ad 18), .int pa])).length) Slot.unset).toArray = ls at hl ⊢
  have hl : lv_has ls 5 [(0, .ref (ad 18)), (1, .int pa)] := hl
  obtain ⟨Q, hQe⟩ : ∃ Q, Q = MQ below (vp_Sl (fun r => r = (f_X1_freeFor td dy pa))) ([.ref (ad 18), .int pa] : List Value).toArray s 0 0 (fun _ => False) := ⟨_, rfl⟩
  show W p l e (headSpec wsX1_freeFor rm_X1_freeFor).room s m ([.ref (ad 18), .int pa] : List Value).toArray below meth c s.heap [] 0 0 (MQ below (vp_Sl (fun r => r = (f_X1_freeFor td dy pa))) ([.ref (ad 18), .int pa] : List Value).toArray s 0 0 (fun _ => False)) (F0 m 0 ls [])
  rw [← hQe]
  refine lv_lconst (v := 0) hx hb dX1_freeFor_0 rfl ?_
  refine lv_lstore_n (lv' := [(2, .long (0 : Int64)), (0, .ref (ad 18)), (1, .int pa)]) hx hb dX1_freeFor_1 rfl hl (by decide) rfl (fun ls hl => ?_)
  refine lv_iconst (v := nI 0) hx hb dX1_freeFor_2 rfl ?_
  refine lv_istore (lv' := [(4, .int (nI 0)), (2, .long (0 : Int64)), (0, .ref (ad 18)), (1, .int pa)]) hx hb dX1_freeFor_3 hl (by decide) rfl (fun ls hl => ?_)
  obtain ⟨T_5_1, hT_5_1⟩ : ∃ z, z = (L_X1_freeFor_5 td dy td.2.2.2.2.2.1 0 (0 : Int64)) := ⟨_, rfl⟩
  have hexit_5 : ∀ (ls : Array Slot), lv_has ls 5 [(2, .long T_5_1), (0, .ref (ad 18)), (1, .int pa)] → W p l e (headSpec wsX1_freeFor rm_X1_freeFor).room s m ([.ref (ad 18), .int pa] : List Value).toArray below meth c s.heap [] 0 0 Q (F0 m 47 ls []) := by
    intro ls hl
    refine lv_ldc2 (v := (1152921504606846975)) hx hb hown (hts (.constantLong RX1 45 (1152921504606846975)) (by decide +kernel)) dX1_freeFor_47 ?_
    refine lv_lload_n hx hb dX1_freeFor_50 rfl (lv_at hl 0 rfl) ?_
    refine lv_aload_n hx hb dX1_freeFor_51 rfl (lv_at hl 1 rfl) ?_
    refine lv_iload_n hx hb dX1_freeFor_52 rfl (lv_at hl 2 rfl) ?_
    refine vp_callSl (va_Run.run (va_runV (As := [.int pa]) (rest := [.long T_5_1, .long (1152921504606846975 : Int64)]) ⟨hx, hb, hml, hown, hts⟩ (c_X1_costly l D cI cL cZ ad A tx td dr dy lb pn ps ks si kb pa ) (cwV 1 hts gX1_freeFor_X1_costly rfl rfl rfl (by decide +kernel) ⟨Nat.le_of_ble_eq_true rfl, Nat.le_of_ble_eq_true rfl⟩) ⟨sR_fb, va_recv hK hP (ci := 1) (q0 := 18) rfl rfl, sR_at hP hK hD hE⟩ rfl rfl hl.1 rfl (lv_room (Nat.le_of_ble_eq_true rfl)) dX1_freeFor_53 ⟨Nat.zero_le _, Nat.zero_le _⟩)) (fun r hr => ?_)
    subst hr
    refine lv_land hx hb dX1_freeFor_56 ?_
    refine lv_ldc2 (v := (-1)) hx hb hown (hts (.constantLong RX1 51 (-1)) (by decide +kernel)) dX1_freeFor_57 ?_
    refine lv_lxor hx hb dX1_freeFor_60 ?_
    refine lv_land hx hb dX1_freeFor_61 ?_
    subst hQe
    have hf : (f_X1_freeFor td dy pa) = ((1152921504606846975 : Int64) &&& ((T_5_1 &&& (f_X1_costly td dy pa)) ^^^ (-1 : Int64))) := by rw [f_X1_freeFor]; (try rw [← hT_5_1]); first | done | rfl
    exact W.lret (v := ((1152921504606846975 : Int64) &&& ((T_5_1 &&& (f_X1_costly td dy pa)) ^^^ (-1 : Int64)))) hx hb hr (fun t ht hW => ⟨((1152921504606846975 : Int64) &&& ((T_5_1 &&& (f_X1_costly td dy pa)) ^^^ (-1 : Int64))), rfl, hf.symm, ht⟩) (fun _ h => by cases h) dX1_freeFor_62
  have loop_5 : ∀ (n_5 : Nat) (k_5 : Nat) (x2_5 : Int64), (k_5 + n_5 = td.2.2.2.2.2.1) → L_X1_freeFor_5 td dy n_5 k_5 x2_5 = T_5_1 → ∀ (ls : Array Slot), lv_has ls 5 [(4, .int (nI k_5)), (2, .long x2_5), (0, .ref (ad 18)), (1, .int pa)] → W p l e (headSpec wsX1_freeFor rm_X1_freeFor).room s m ([.ref (ad 18), .int pa] : List Value).toArray below meth c s.heap [] 0 0 Q (F0 m 5 ls []) := by
    intro n_5
    induction n_5 with
    | zero =>
      intro k_5 x2_5 hk_5 hL_5 ls hl
      refine lv_iload hx hb dX1_freeFor_5 (lv_at hl 0 rfl) ?_
      refine lv_aload_n hx hb dX1_freeFor_7 rfl (lv_at hl 2 rfl) ?_
      refine va_get (D := D) (ci := 1) (v := .ref (ad 3)) (C := RX1) (T := TX1) (N := 3) hx hb hts (by decide +kernel) hown hK hP 18 rfl rfl 0 (by decide) (hts (.fieldLink RX1 15 "SummitTime$Ledger" "told" "LSummitTime$Told;") (by decide +kernel)) (fun _ h9 => h9) rfl dX1_freeFor_8 ?_
      refine va_getN (D := D) (ci := 6) (v := .int (nI td.2.2.2.2.2.1)) (C := RX6) (T := TX6) (N := 7) hx hb hts (by decide +kernel) hown hK hP 3 rfl rfl 5 (by decide) (va_Nw.use rfl hE.2.2.1) (fun _ h9 => h9) rfl dX1_freeFor_11 ?_
      refine mv_icmp_ge (tgt := 47) hx hb dX1_freeFor_14 (by decide) (by omega) (by omega) (fun c_3 => ?_) (fun c_3 => (by omega : False).elim)
      have e9 : T_5_1 = x2_5 := by rw [← hL_5, L_X1_freeFor_5]
      have hq := hexit_5
      rw [e9] at hq
      exact hq ls  (lv_sub hl [1, 2, 3] rfl)
    | succ n_5 ih_5 =>
      intro k_5 x2_5 hk_5 hL_5 ls hl
      refine lv_iload hx hb dX1_freeFor_5 (lv_at hl 0 rfl) ?_
      refine lv_aload_n hx hb dX1_freeFor_7 rfl (lv_at hl 2 rfl) ?_
      refine va_get (D := D) (ci := 1) (v := .ref (ad 3)) (C := RX1) (T := TX1) (N := 3) hx hb hts (by decide +kernel) hown hK hP 18 rfl rfl 0 (by decide) (hts (.fieldLink RX1 15 "SummitTime$Ledger" "told" "LSummitTime$Told;") (by decide +kernel)) (fun _ h9 => h9) rfl dX1_freeFor_8 ?_
      refine va_getN (D := D) (ci := 6) (v := .int (nI td.2.2.2.2.2.1)) (C := RX6) (T := TX6) (N := 7) hx hb hts (by decide +kernel) hown hK hP 3 rfl rfl 5 (by decide) (va_Nw.use rfl hE.2.2.1) (fun _ h9 => h9) rfl dX1_freeFor_11 ?_
      refine mv_icmp_ge (tgt := 47) hx hb dX1_freeFor_14 (by decide) (by omega) (by omega) (fun c_1 => (by omega : False).elim) (fun c_1 => ?_)
      refine lv_aload_n hx hb dX1_freeFor_17 rfl (lv_at hl 2 rfl) ?_
      refine va_get (D := D) (ci := 1) (v := .ref (ad 3)) (C := RX1) (T := TX1) (N := 3) hx hb hts (by decide +kernel) hown hK hP 18 rfl rfl 0 (by decide) (hts (.fieldLink RX1 15 "SummitTime$Ledger" "told" "LSummitTime$Told;") (by decide +kernel)) (fun _ h9 => h9) rfl dX1_freeFor_18 ?_
      refine lv_iload hx hb dX1_freeFor_21 (lv_at hl 0 rfl) ?_
      refine vp_callSi (va_Run.run (va_runV (As := [.int (nI k_5)]) (rest := []) ⟨hx, hb, hml, hown, hts⟩ (c_X6_tollOf l D cI cL cZ ad A tx td dr dy lb pn ps ks si kb (nI k_5) ) (cwV 1 hts gX1_freeFor_X6_tollOf rfl rfl rfl (by decide +kernel) ⟨Nat.le_of_ble_eq_true rfl, Nat.le_of_ble_eq_true rfl⟩) ⟨sR_fb, va_recv hK hP (ci := 6) (q0 := 3) rfl rfl, sR_at hP hK hD hE⟩ rfl rfl hl.1 rfl (lv_room (Nat.le_of_ble_eq_true rfl)) dX1_freeFor_23 ⟨Nat.zero_le _, Nat.zero_le _⟩)) (fun r hr => ?_)
      subst hr
      refine lv_if_le (tgt := 41) hx hb dX1_freeFor_26 (by decide) (fun c_2 => ?_) (fun c_2 => ?_)
      · refine mv_iinc (y := k_5 + 1) (lv' := [(4, .int (nI (k_5 + 1))), (2, .long x2_5), (0, .ref (ad 18)), (1, .int pa)]) hx hb dX1_freeFor_41 hl (k := 0) rfl (nI_p1 _) (by decide) rfl (fun ls hl => ?_)
        refine lv_goto (tgt := 5) hx hb dX1_freeFor_44 (by decide) ?_
        exact ih_5 (k_5 + 1) x2_5 (by omega) (by have e9 := hL_5; rw [L_X1_freeFor_5, if_pos c_2] at e9; exact e9) ls (lv_sub hl [0, 1, 2, 3] rfl)
      · refine lv_lload_n hx hb dX1_freeFor_29 rfl (lv_at hl 1 rfl) ?_
        refine lv_aload_n hx hb dX1_freeFor_30 rfl (lv_at hl 2 rfl) ?_
        refine va_get (D := D) (ci := 1) (v := .ref (ad 15)) (C := RX1) (T := TX1) (N := 3) hx hb hts (by decide +kernel) hown hK hP 18 rfl rfl 1 (by decide) (hts (.fieldLink RX1 19 "SummitTime$Ledger" "day" "LSummitTime$Day;") (by decide +kernel)) (fun _ h9 => h9) rfl dX1_freeFor_31 ?_
        refine lv_iload hx hb dX1_freeFor_34 (lv_at hl 0 rfl) ?_
        refine vp_callSl (va_Run.run (va_runV (As := [.int (nI k_5)]) (rest := [.long x2_5]) ⟨hx, hb, hml, hown, hts⟩ (c_X0_landOf l D cI cL cZ ad A tx td dr dy lb pn ps ks si kb (nI k_5) ) (cwV 1 hts gX1_freeFor_X0_landOf rfl rfl rfl (by decide +kernel) ⟨Nat.le_of_ble_eq_true rfl, Nat.le_of_ble_eq_true rfl⟩) ⟨sR_fb, va_recv hK hP (ci := 0) (q0 := 15) rfl rfl, sR_at hP hK hD hE⟩ rfl rfl hl.1 rfl (lv_room (Nat.le_of_ble_eq_true rfl)) dX1_freeFor_36 ⟨Nat.zero_le _, Nat.zero_le _⟩)) (fun r hr => ?_)
        subst hr
        refine lv_lor hx hb dX1_freeFor_39 ?_
        refine lv_lstore_n (lv' := [(2, .long (x2_5 ||| (f_X0_landOf dy (nI k_5)))), (4, .int (nI k_5)), (0, .ref (ad 18)), (1, .int pa)]) hx hb dX1_freeFor_40 rfl hl (by decide) rfl (fun ls hl => ?_)
        refine mv_iinc (y := k_5 + 1) (lv' := [(4, .int (nI (k_5 + 1))), (2, .long (x2_5 ||| (f_X0_landOf dy (nI k_5)))), (0, .ref (ad 18)), (1, .int pa)]) hx hb dX1_freeFor_41 hl (k := 1) rfl (nI_p1 _) (by decide) rfl (fun ls hl => ?_)
        refine lv_goto (tgt := 5) hx hb dX1_freeFor_44 (by decide) ?_
        exact ih_5 (k_5 + 1) (x2_5 ||| (f_X0_landOf dy (nI k_5))) (by omega) (by have e9 := hL_5; rw [L_X1_freeFor_5, if_neg c_2] at e9; exact e9) ls (lv_sub hl [0, 1, 2, 3] rfl)
  exact loop_5 td.2.2.2.2.2.1 0 (0 : Int64) (by omega) hT_5_1.symm ls (lv_sub hl [0, 1, 2, 3] rfl)
