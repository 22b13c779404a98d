def L_X6_deed_3 (pa : Int32) (sx : Int64) : Nat → Nat → (Nat → Int64) → (Nat → Int64)
  | 0, _, wdr4_3 => wdr4_3
  | n_3 + 1, k_3, wdr4_3 => (L_X6_deed_3 pa sx n_3 (k_3 + 1) (vp_updL wdr4_3 k_3 (if nI k_3 = pa then ((wdr4_3 k_3) ||| sx) else ((wdr4_3 k_3) &&& (sx ^^^ (-1 : Int64))))))
def f_X6_deed (dr : XTd) (pa : Int32) (sx : Int64) : XTd := (dr.1, dr.2.1, dr.2.2.1, dr.2.2.2.1, (L_X6_deed_3 pa sx 6 0 dr.2.2.2.2.1), dr.2.2.2.2.2.1, dr.2.2.2.2.2.2)
abbrev rm_X6_deed : Room := { frames := 0, cells := 0, slots := 0, locals := 0 }
set_option maxHeartbeats 4000000 in
set_option maxRecDepth 100000 in
theorem c_X6_deed (l : Launch) (D : va_G) (cI cL cZ : ClassId) (ad : Nat → Nat) (A : Nat → Prop) (tx : XTx) (td : XTd) (dr : XTd) (dy : XDy) (lb : (Nat → Int32)) (pn : (Nat × Nat)) (ps : XSh) (ks : XSh) (si : XSi) (kb : Int32) (pa : Int32) (sx : Int64)  : Met l yX6_deed wsX6_deed rm_X6_deed (va_Pc [.ref (ad 9), .int pa, .long sx] (sR D cI cL cZ A (xW cI cL cZ ad tx td dr dy lb pn ps ks si kb))) (va_Qv (fun (u : XTd) => u = (f_X6_deed dr pa sx)) (fun (u : XTd) t => va_P D vwCl (xW cI cL cZ ad tx td u dy lb pn ps ks si kb) t.heap) A) 0 0 A := by
  refine Met.ofW (cc := cX6_deed) (maxL := 5) (ret := none) (by decide) rfl ?_
  intro p e s m args below meth c s₁ B hml hv
  obtain ⟨rfl, hP, hK, hD, hE⟩ := hv
  have hx := B.exec
  have hb := B.bytes
  have hr := B.returns
  have hts := atoms_spec (ws := wsX6_deed) B.pre
  have hown : s.vm.findClass RX6 = some m.cls := findClass_of_methodNamed B.named
  have hlocks := B.notSynchronized
  have hS : va_S A s.heap s.heap [] := va_S.rf
  have hl := lv_entry ([.ref (ad 9), .int pa, .long sx]) (n := 5) (Nat.le_of_ble_eq_true rfl)
  rw [lg_entry_eq]
  generalize (lg_sl ([.ref (ad 9), .int pa, .long sx]) ++ List.replicate (5 - (lg_sl ([.ref (ad 9), .int pa, .long sx])).length) Slot.unset).toArray = ls at hl ⊢
  have hl : lv_has ls 5 [(0, .ref (ad 9)), (1, .int pa), (2, .long sx)] := hl
  obtain ⟨Q, hQe⟩ : ∃ Q, Q = MQ below (va_Qv (fun (u : XTd) => u = (f_X6_deed dr pa sx)) (fun (u : XTd) t => va_P D vwCl (xW cI cL cZ ad tx td u dy lb pn ps ks si kb) t.heap) A) ([.ref (ad 9), .int pa, .long sx] : List Value).toArray s 0 0 A := ⟨_, rfl⟩
  show W p l e (headSpec wsX6_deed rm_X6_deed).room s m ([.ref (ad 9), .int pa, .long sx] : List Value).toArray below meth c s.heap [] 0 0 (MQ below (va_Qv (fun (u : XTd) => u = (f_X6_deed dr pa sx)) (fun (u : XTd) t => va_P D vwCl (xW cI cL cZ ad tx td u dy lb pn ps ks si kb) t.heap) A) ([.ref (ad 9), .int pa, .long sx] : List Value).toArray s 0 0 A) (F0 m 0 ls [])
  rw [← hQe]
  refine lv_iconst (v := nI 0) hx hb dX6_deed_0 rfl ?_
  refine lv_istore (lv' := [(4, .int (nI 0)), (0, .ref (ad 9)), (1, .int pa), (2, .long sx)]) hx hb dX6_deed_1 hl (by decide) rfl (fun ls hl => ?_)
  obtain ⟨T_3_1, hT_3_1⟩ : ∃ z, z = (L_X6_deed_3 pa sx 6 0 dr.2.2.2.2.1) := ⟨_, rfl⟩
  have hexit_3 : ∀ (H : Heap) (locs : List Loc) (ls : Array Slot), va_P D vwCl (xW cI cL cZ ad tx td (dr.1, dr.2.1, dr.2.2.1, dr.2.2.2.1, T_3_1, dr.2.2.2.2.2.1, dr.2.2.2.2.2.2) dy lb pn ps ks si kb) H → va_S A s.heap H locs → lv_has ls 5 [(0, .ref (ad 9)), (1, .int pa), (2, .long sx)] → W p l e (headSpec wsX6_deed rm_X6_deed).room s m ([.ref (ad 9), .int pa, .long sx] : List Value).toArray below meth c H locs 0 0 Q (F0 m 54 ls []) := by
    intro H locs ls hP hS hl
    have hD : va_D A (xW cI cL cZ ad tx td (dr.1, dr.2.1, dr.2.2.1, dr.2.2.2.1, T_3_1, dr.2.2.2.2.2.1, dr.2.2.2.2.2.2) dy lb pn ps ks si kb) := xW_D hD
    subst hQe
    have hf : (f_X6_deed dr pa sx) = (dr.1, dr.2.1, dr.2.2.1, dr.2.2.2.1, T_3_1, dr.2.2.2.2.2.1, dr.2.2.2.2.2.2) := by rw [f_X6_deed]; (try rw [← hT_3_1]); first | done | rfl
    exact W.vret hx hb hr (fun t ht hW => ⟨⟨(dr.1, dr.2.1, dr.2.2.1, dr.2.2.2.1, T_3_1, dr.2.2.2.2.2.1, dr.2.2.2.2.2.2), rfl, hf.symm, va_Pt ht hP⟩, hS.F ht⟩) hS.2.2 dX6_deed_54
  have loop_3 : ∀ (n_3 : Nat) (k_3 : Nat) (wdr4_3 : Nat → Int64), (k_3 + n_3 = 6) → L_X6_deed_3 pa sx n_3 k_3 wdr4_3 = T_3_1 → ∀ (H : Heap) (locs : List Loc) (ls : Array Slot), va_P D vwCl (xW cI cL cZ ad tx td (dr.1, dr.2.1, dr.2.2.1, dr.2.2.2.1, wdr4_3, dr.2.2.2.2.2.1, dr.2.2.2.2.2.2) dy lb pn ps ks si kb) H → va_S A s.heap H locs → lv_has ls 5 [(4, .int (nI k_3)), (0, .ref (ad 9)), (1, .int pa), (2, .long sx)] → W p l e (headSpec wsX6_deed rm_X6_deed).room s m ([.ref (ad 9), .int pa, .long sx] : List Value).toArray below meth c H locs 0 0 Q (F0 m 3 ls []) := by
    intro n_3
    induction n_3 with
    | zero =>
      intro k_3 wdr4_3 hk_3 hL_3 H locs ls hP hS hl
      have hD : va_D A (xW cI cL cZ ad tx td (dr.1, dr.2.1, dr.2.2.1, dr.2.2.2.1, wdr4_3, dr.2.2.2.2.2.1, dr.2.2.2.2.2.2) dy lb pn ps ks si kb) := xW_D hD
      refine lv_iload hx hb dX6_deed_3 (lv_at hl 0 rfl) ?_
      refine lv_bipush (v := nI 6) hx hb dX6_deed_5 rfl ?_
      refine mv_icmp_ge (tgt := 54) hx hb dX6_deed_7 (by decide) (by omega) (by decide) (fun c_4 => ?_) (fun c_4 => (by omega : False).elim)
      have e9 : T_3_1 = wdr4_3 := by rw [← hL_3, L_X6_deed_3]
      have hq := hexit_3
      rw [e9] at hq
      exact hq _ _ ls  hP hS (lv_sub hl [1, 2, 3] rfl)
    | succ n_3 ih_3 =>
      intro k_3 wdr4_3 hk_3 hL_3 H locs ls hP hS hl
      have hD : va_D A (xW cI cL cZ ad tx td (dr.1, dr.2.1, dr.2.2.1, dr.2.2.2.1, wdr4_3, dr.2.2.2.2.2.1, dr.2.2.2.2.2.2) dy lb pn ps ks si kb) := xW_D hD
      refine lv_iload hx hb dX6_deed_3 (lv_at hl 0 rfl) ?_
      refine lv_bipush (v := nI 6) hx hb dX6_deed_5 rfl ?_
      refine mv_icmp_ge (tgt := 54) hx hb dX6_deed_7 (by decide) (by omega) (by decide) (fun c_1 => (by omega : False).elim) (fun c_1 => ?_)
      refine lv_aload_n hx hb dX6_deed_10 rfl (lv_at hl 1 rfl) ?_
      refine va_get (D := D) (ci := 6) (v := .ref (ad 14)) (C := RX6) (T := TX6) (N := 7) hx hb hts (by decide +kernel) hown hK hP 9 rfl rfl 4 (by decide) (hts (.fieldLink RX6 24 "SummitTime$Told" "deeds" "[J") (by decide +kernel)) (fun _ h9 => h9) rfl dX6_deed_11 ?_
      refine lv_iload hx hb dX6_deed_14 (lv_at hl 0 rfl) ?_
      refine lv_iload hx hb dX6_deed_16 (lv_at hl 0 rfl) ?_
      refine lv_iload_n hx hb dX6_deed_18 rfl (lv_at hl 2 rfl) ?_
      refine mv_phil (v := (if nI k_3 = pa then ((wdr4_3 k_3) ||| sx) else ((wdr4_3 k_3) &&& (sx ^^^ (-1 : Int64))))) (pcj := 47) (ls := ls) (rest' := [.int (nI k_3), .ref (ad 14)]) ?_ (fun J_2 => ?_)
      · refine mv_last (f := wdr4_3) hx hb hK hP hD hS 14 1 rfl rfl (by omega) (by decide) dX6_deed_47 (fun H locs hP hD hS => ?_)
        have hP : va_P D vwCl (xW cI cL cZ ad tx td (dr.1, dr.2.1, dr.2.2.1, dr.2.2.2.1, (vp_updL wdr4_3 k_3 (if nI k_3 = pa then ((wdr4_3 k_3) ||| sx) else ((wdr4_3 k_3) &&& (sx ^^^ (-1 : Int64))))), dr.2.2.2.2.2.1, dr.2.2.2.2.2.2) dy lb pn ps ks si kb) H := hP
        have hD : va_D A (xW cI cL cZ ad tx td (dr.1, dr.2.1, dr.2.2.1, dr.2.2.2.1, (vp_updL wdr4_3 k_3 (if nI k_3 = pa then ((wdr4_3 k_3) ||| sx) else ((wdr4_3 k_3) &&& (sx ^^^ (-1 : Int64))))), dr.2.2.2.2.2.1, dr.2.2.2.2.2.2) dy lb pn ps ks si kb) := hD
        refine mv_iinc (y := k_3 + 1) (lv' := [(4, .int (nI (k_3 + 1))), (0, .ref (ad 9)), (1, .int pa), (2, .long sx)]) hx hb dX6_deed_48 hl (k := 0) rfl (nI_p1 _) (by decide) rfl (fun ls hl => ?_)
        refine lv_goto (tgt := 3) hx hb dX6_deed_51 (by decide) ?_
        exact ih_3 (k_3 + 1) (vp_updL wdr4_3 k_3 (if nI k_3 = pa then ((wdr4_3 k_3) ||| sx) else ((wdr4_3 k_3) &&& (sx ^^^ (-1 : Int64))))) (by omega) (by have e9 := hL_3; rw [L_X6_deed_3] at e9; exact e9) _ _ ls hP hS (lv_sub hl [0, 1, 2, 3] rfl)
      · refine lv_icmp_ne (tgt := 34) hx hb dX6_deed_19 (by decide) (fun c_3 => ?_) (fun c_3 => ?_)
        · refine lv_aload_n hx hb dX6_deed_34 rfl (lv_at hl 1 rfl) ?_
          refine va_get (D := D) (ci := 6) (v := .ref (ad 14)) (C := RX6) (T := TX6) (N := 7) hx hb hts (by decide +kernel) hown hK hP 9 rfl rfl 4 (by decide) (hts (.fieldLink RX6 24 "SummitTime$Told" "deeds" "[J") (by decide +kernel)) (fun _ h9 => h9) rfl dX6_deed_35 ?_
          refine lv_iload hx hb dX6_deed_38 (lv_at hl 0 rfl) ?_
          refine mv_lald (f := wdr4_3) hx hb hK hP 14 1 rfl rfl (by omega) (by decide) dX6_deed_40 ?_
          refine lv_lload_n hx hb dX6_deed_41 rfl (lv_at hl 3 rfl) ?_
          refine lv_ldc2 (v := (-1)) hx hb hown (hts (.constantLong RX6 36 (-1)) (by decide +kernel)) dX6_deed_42 ?_
          refine lv_lxor hx hb dX6_deed_45 ?_
          refine lv_land hx hb dX6_deed_46 ?_
          exact J_2 _ (by rw [if_neg c_3])
        · refine lv_aload_n hx hb dX6_deed_22 rfl (lv_at hl 1 rfl) ?_
          refine va_get (D := D) (ci := 6) (v := .ref (ad 14)) (C := RX6) (T := TX6) (N := 7) hx hb hts (by decide +kernel) hown hK hP 9 rfl rfl 4 (by decide) (hts (.fieldLink RX6 24 "SummitTime$Told" "deeds" "[J") (by decide +kernel)) (fun _ h9 => h9) rfl dX6_deed_23 ?_
          refine lv_iload hx hb dX6_deed_26 (lv_at hl 0 rfl) ?_
          refine mv_lald (f := wdr4_3) hx hb hK hP 14 1 rfl rfl (by omega) (by decide) dX6_deed_28 ?_
          refine lv_lload_n hx hb dX6_deed_29 rfl (lv_at hl 3 rfl) ?_
          refine lv_lor hx hb dX6_deed_30 ?_
          refine lv_goto (tgt := 47) hx hb dX6_deed_31 (by decide) ?_
          exact J_2 _ (by rw [if_pos c_3])
  exact loop_3 6 0 dr.2.2.2.2.1 (by omega) hT_3_1.symm _ _ ls hP hS (lv_sub hl [0, 1, 2, 3] rfl)
def L_X0_beginAs_2 (td : XTd) : Nat → Nat → (Nat → Int32) → (Nat → Int64) → (Nat → Int32) × (Nat → Int64)
  | 0, _, wdy0_2, wdy1_2 => (wdy0_2, wdy1_2)
  | n_2 + 1, k_2, wdy0_2, wdy1_2 => (L_X0_beginAs_2 td n_2 (k_2 + 1) (upd wdy0_2 k_2 (-1 : Int32)) (vp_updL wdy1_2 k_2 (f_X6_deedOf td (nI k_2))))
def f_X0_beginAs (td : XTd) (dy : XDy) : XDy := ((L_X0_beginAs_2 td 6 0 dy.1 dy.2.1).1, (L_X0_beginAs_2 td 6 0 dy.1 dy.2.1).2, (nI 0), (nI 0))
abbrev rm_X0_beginAs : Room := { frames := 1, cells := 0, slots := 0, locals := 21 }
set_option maxHeartbeats 4000000 in
set_option maxRecDepth 100000 in
theorem c_X0_beginAs (l : Launch) (D : va_G) (cI cL cZ : ClassId) (ad : Nat → Nat) (A : Nat → Prop) (tx : XTx) (td : XTd) (dr : XTd) (dy : XDy) (lb : (Nat → Int32)) (pn : (Nat × Nat)) (ps : XSh) (ks : XSh) (si : XSi) (kb : Int32)   : Met l yX0_beginAs wsX0_beginAs rm_X0_beginAs (va_Pc [.ref (ad 15), .ref (ad 3)] (sR D cI cL cZ A (xW cI cL cZ ad tx td dr dy lb pn ps ks si kb))) (va_Qv (fun (u : XDy) => u = (f_X0_beginAs td dy)) (fun (u : XDy) t => va_P D vwCl (xW cI cL cZ ad tx td dr u lb pn ps ks si kb) t.heap) A) 0 0 A := by
  refine Met.ofW (cc := cX0_beginAs) (maxL := 3) (ret := none) (by decide) rfl ?_
  intro p e s m args below meth c s₁ B hml hv
  obtain ⟨rfl, hP, hK, hD, hE⟩ := hv
  have hx := B.exec
  have hb := B.bytes
  have hr := B.returns
  have hts := atoms_spec (ws := wsX0_beginAs) B.pre
  have hown : s.vm.findClass RX0 = some m.cls := findClass_of_methodNamed B.named
  have hlocks := B.notSynchronized
  have hS : va_S A s.heap s.heap [] := va_S.rf
  have hl := lv_entry ([.ref (ad 15), .ref (ad 3)]) (n := 3) (Nat.le_of_ble_eq_true rfl)
  rw [lg_entry_eq]
  generalize (lg_sl ([.ref (ad 15), .ref (ad 3)]) ++ List.replicate (3 - (lg_sl ([.ref (ad 15), .ref (ad 3)])).length) Slot.unset).toArray = ls at hl ⊢
  have hl : lv_has ls 3 [(0, .ref (ad 15)), (1, .ref (ad 3))] := hl
  obtain ⟨Q, hQe⟩ : ∃ Q, Q = MQ below (va_Qv (fun (u : XDy) => u = (f_X0_beginAs td dy)) (fun (u : XDy) t => va_P D vwCl (xW cI cL cZ ad tx td dr u lb pn ps ks si kb) t.heap) A) ([.ref (ad 15), .ref (ad 3)] : List Value).toArray s 0 0 A := ⟨_, rfl⟩
  show W p l e (headSpec wsX0_beginAs rm_X0_beginAs).room s m ([.ref (ad 15), .ref (ad 3)] : List Value).toArray below meth c s.heap [] 0 0 (MQ below (va_Qv (fun (u : XDy) => u = (f_X0_beginAs td dy)) (fun (u : XDy) t => va_P D vwCl (xW cI cL cZ ad tx td dr u lb pn ps ks si kb) t.heap) A) ([.ref (ad 15), .ref (ad 3)] : List Value).toArray s 0 0 A) (F0 m 0 ls [])
  rw [← hQe]
  refine lv_iconst (v := nI 0) hx hb dX0_beginAs_0 rfl ?_
  refine lv_istore_n (lv' := [(2, .int (nI 0)), (0, .ref (ad 15)), (1, .ref (ad 3))]) hx hb dX0_beginAs_1 rfl hl (by decide) rfl (fun ls hl => ?_)
  obtain ⟨T_2_1, hT_2_1⟩ : ∃ z, z = (L_X0_beginAs_2 td 6 0 dy.1 dy.2.1) := ⟨_, rfl⟩
  have hexit_2 : ∀ (H : Heap) (locs : List Loc) (ls : Array Slot), va_P D vwCl (xW cI cL cZ ad tx td dr (T_2_1.1, T_2_1.2, dy.2.2.1, dy.2.2.2) lb pn ps ks si kb) H → va_S A s.heap H locs → lv_has ls 3 [(0, .ref (ad 15)), (1, .ref (ad 3))] → W p l e (headSpec wsX0_beginAs rm_X0_beginAs).room s m ([.ref (ad 15), .ref (ad 3)] : List Value).toArray below meth c H locs 0 0 Q (F0 m 32 ls []) := by
    intro H locs ls hP hS hl
    have hD : va_D A (xW cI cL cZ ad tx td dr (T_2_1.1, T_2_1.2, dy.2.2.1, dy.2.2.2) lb pn ps ks si kb) := xW_D hD
    refine lv_aload_n hx hb dX0_beginAs_32 rfl (lv_at hl 0 rfl) ?_
    refine lv_iconst (v := nI 0) hx hb dX0_beginAs_33 rfl ?_
    refine va_put (D := D) (ci := 0) (v := .int (nI 0)) (ty := .int) (C := RX0) (T := TX0) (N := 4) hx hb hts (by decide +kernel) tyX0 tyX0_ok nmX0 hown hK hP hD hS 15 rfl rfl 2 (by decide) (hts (.fieldLink RX0 19 "SummitTime$Day" "ropes" "I") (by decide +kernel)) (fun _ h9 => h9) rfl (by decide +kernel) rfl rfl (Nat.le_of_ble_eq_true rfl) dX0_beginAs_34 (fun H locs hP hD hS => ?_)
    have hP : va_P D vwCl (xW cI cL cZ ad tx td dr (T_2_1.1, T_2_1.2, (nI 0), dy.2.2.2) lb pn ps ks si kb) H := hP
    have hD : va_D A (xW cI cL cZ ad tx td dr (T_2_1.1, T_2_1.2, (nI 0), dy.2.2.2) lb pn ps ks si kb) := hD
    refine lv_aload_n hx hb dX0_beginAs_37 rfl (lv_at hl 0 rfl) ?_
    refine lv_iconst (v := nI 0) hx hb dX0_beginAs_38 rfl ?_
    refine va_put (D := D) (ci := 0) (v := .int (nI 0)) (ty := .int) (C := RX0) (T := TX0) (N := 4) hx hb hts (by decide +kernel) tyX0 tyX0_ok nmX0 hown hK hP hD hS 15 rfl rfl 3 (by decide) (hts (.fieldLink RX0 23 "SummitTime$Day" "clockOn" "I") (by decide +kernel)) (fun _ h9 => h9) rfl (by decide +kernel) rfl rfl (Nat.le_of_ble_eq_true rfl) dX0_beginAs_39 (fun H locs hP hD hS => ?_)
    have hP : va_P D vwCl (xW cI cL cZ ad tx td dr (T_2_1.1, T_2_1.2, (nI 0), (nI 0)) lb pn ps ks si kb) H := hP
    have hD : va_D A (xW cI cL cZ ad tx td dr (T_2_1.1, T_2_1.2, (nI 0), (nI 0)) lb pn ps ks si kb) := hD
    subst hQe
    have hf : (f_X0_beginAs td dy) = (T_2_1.1, T_2_1.2, (nI 0), (nI 0)) := by rw [f_X0_beginAs]; (try rw [← hT_2_1]); first | done | rfl
    exact W.vret hx hb hr (fun t ht hW => ⟨⟨(T_2_1.1, T_2_1.2, (nI 0), (nI 0)), rfl, hf.symm, va_Pt ht hP⟩, hS.F ht⟩) hS.2.2 dX0_beginAs_42
  have loop_2 : ∀ (n_2 : Nat) (k_2 : Nat) (wdy0_2 : Nat → Int32) (wdy1_2 : Nat → Int64), (k_2 + n_2 = 6) → L_X0_beginAs_2 td n_2 k_2 wdy0_2 wdy1_2 = T_2_1 → ∀ (H : Heap) (locs : List Loc) (ls : Array Slot), va_P D vwCl (xW cI cL cZ ad tx td dr (wdy0_2, wdy1_2, dy.2.2.1, dy.2.2.2) lb pn ps ks si kb) H → va_S A s.heap H locs → lv_has ls 3 [(2, .int (nI k_2)), (0, .ref (ad 15)), (1, .ref (ad 3))] → W p l e (headSpec wsX0_beginAs rm_X0_beginAs).room s m ([.ref (ad 15), .ref (ad 3)] : List Value).toArray below meth c H locs 0 0 Q (F0 m 2 ls []) := by
    intro n_2
    induction n_2 with
    | zero =>
      intro k_2 wdy0_2 wdy1_2 hk_2 hL_2 H locs ls hP hS hl
      have hD : va_D A (xW cI cL cZ ad tx td dr (wdy0_2, wdy1_2, dy.2.2.1, dy.2.2.2) lb pn ps ks si kb) := xW_D hD
      refine lv_iload_n hx hb dX0_beginAs_2 rfl (lv_at hl 0 rfl) ?_
      refine lv_bipush (v := nI 6) hx hb dX0_beginAs_3 rfl ?_
      refine mv_icmp_ge (tgt := 32) hx hb dX0_beginAs_5 (by decide) (by omega) (by decide) (fun c_2 => ?_) (fun c_2 => (by omega : False).elim)
      have e9 : T_2_1 = (wdy0_2, wdy1_2) := by rw [← hL_2, L_X0_beginAs_2]
      have hq := hexit_2
      rw [e9] at hq
      exact hq _ _ ls  hP hS (lv_sub hl [1, 2] rfl)
    | succ n_2 ih_2 =>
      intro k_2 wdy0_2 wdy1_2 hk_2 hL_2 H locs ls hP hS hl
      have hD : va_D A (xW cI cL cZ ad tx td dr (wdy0_2, wdy1_2, dy.2.2.1, dy.2.2.2) lb pn ps ks si kb) := xW_D hD
      refine lv_iload_n hx hb dX0_beginAs_2 rfl (lv_at hl 0 rfl) ?_
      refine lv_bipush (v := nI 6) hx hb dX0_beginAs_3 rfl ?_
      refine mv_icmp_ge (tgt := 32) hx hb dX0_beginAs_5 (by decide) (by omega) (by decide) (fun c_1 => (by omega : False).elim) (fun c_1 => ?_)
      refine lv_aload_n hx hb dX0_beginAs_8 rfl (lv_at hl 1 rfl) ?_
      refine va_get (D := D) (ci := 0) (v := .ref (ad 16)) (C := RX0) (T := TX0) (N := 4) hx hb hts (by decide +kernel) hown hK hP 15 rfl rfl 0 (by decide) (hts (.fieldLink RX0 9 "SummitTime$Day" "starts" "[I") (by decide +kernel)) (fun _ h9 => h9) rfl dX0_beginAs_9 ?_
      refine lv_iload_n hx hb dX0_beginAs_12 rfl (lv_at hl 0 rfl) ?_
      refine lv_iconst (v := (-1)) hx hb dX0_beginAs_13 rfl ?_
      refine mv_iast (f := wdy0_2) hx hb hK hP hD hS 16 0 rfl rfl (by omega) (by decide) dX0_beginAs_14 (fun H locs hP hD hS => ?_)
      have hP : va_P D vwCl (xW cI cL cZ ad tx td dr ((upd wdy0_2 k_2 (-1 : Int32)), wdy1_2, dy.2.2.1, dy.2.2.2) lb pn ps ks si kb) H := hP
      have hD : va_D A (xW cI cL cZ ad tx td dr ((upd wdy0_2 k_2 (-1 : Int32)), wdy1_2, dy.2.2.1, dy.2.2.2) lb pn ps ks si kb) := hD
      refine lv_aload_n hx hb dX0_beginAs_15 rfl (lv_at hl 1 rfl) ?_
      refine va_get (D := D) (ci := 0) (v := .ref (ad 17)) (C := RX0) (T := TX0) (N := 4) hx hb hts (by decide +kernel) hown hK hP 15 rfl rfl 1 (by decide) (hts (.fieldLink RX0 15 "SummitTime$Day" "lands" "[J") (by decide +kernel)) (fun _ h9 => h9) rfl dX0_beginAs_16 ?_
      refine lv_iload_n hx hb dX0_beginAs_19 rfl (lv_at hl 0 rfl) ?_
      refine lv_aload_n hx hb dX0_beginAs_20 rfl (lv_at hl 2 rfl) ?_
      refine lv_iload_n hx hb dX0_beginAs_21 rfl (lv_at hl 0 rfl) ?_
      refine vp_callSl (va_Run.run (va_runV (As := [.int (nI k_2)]) (rest := [.int (nI k_2), .ref (ad 17)]) ⟨hx, hb, hml, hown, hts⟩ (c_X6_deedOf l D cI cL cZ ad A tx td dr ((upd wdy0_2 k_2 (-1 : Int32)), wdy1_2, dy.2.2.1, dy.2.2.2) lb pn ps ks si kb (nI k_2) ) (cwV 1 hts gX0_beginAs_X6_deedOf rfl rfl rfl (by decide +kernel) ⟨Nat.le_of_ble_eq_true rfl, Nat.le_of_ble_eq_true rfl⟩) ⟨sR_fb, va_recv hK hP (ci := 6) (q0 := 3) rfl rfl, sR_at hP hK hD hE⟩ rfl rfl hl.1 rfl (lv_room (Nat.le_of_ble_eq_true rfl)) dX0_beginAs_22 ⟨Nat.zero_le _, Nat.zero_le _⟩)) (fun r hr => ?_)
      subst hr
      refine mv_last (f := wdy1_2) hx hb hK hP hD hS 17 1 rfl rfl (by omega) (by decide) dX0_beginAs_25 (fun H locs hP hD hS => ?_)
      have hP : va_P D vwCl (xW cI cL cZ ad tx td dr ((upd wdy0_2 k_2 (-1 : Int32)), (vp_updL wdy1_2 k_2 (f_X6_deedOf td (nI k_2))), dy.2.2.1, dy.2.2.2) lb pn ps ks si kb) H := hP
      have hD : va_D A (xW cI cL cZ ad tx td dr ((upd wdy0_2 k_2 (-1 : Int32)), (vp_updL wdy1_2 k_2 (f_X6_deedOf td (nI k_2))), dy.2.2.1, dy.2.2.2) lb pn ps ks si kb) := hD
      refine mv_iinc (y := k_2 + 1) (lv' := [(2, .int (nI (k_2 + 1))), (0, .ref (ad 15)), (1, .ref (ad 3))]) hx hb dX0_beginAs_26 hl (k := 0) rfl (nI_p1 _) (by decide) rfl (fun ls hl => ?_)
      refine lv_goto (tgt := 2) hx hb dX0_beginAs_29 (by decide) ?_
      exact ih_2 (k_2 + 1) (upd wdy0_2 k_2 (-1 : Int32)) (vp_updL wdy1_2 k_2 (f_X6_deedOf td (nI k_2))) (by omega) (by have e9 := hL_2; rw [L_X0_beginAs_2] at e9; exact e9) _ _ ls hP hS (lv_sub hl [0, 1, 2] rfl)
  exact loop_2 6 0 dy.1 dy.2.1 (by omega) hT_2_1.symm _ _ ls hP hS (lv_sub hl [0, 1, 2] rfl)
def f_X0_startOf (dy : XDy) (pa : Int32) : Int32 := (if pa < 0 then (-1 : Int32) else (if nI 6 ≤ pa then (-1 : Int32) else (dy.1 pa.toNatClampNeg)))
abbrev rm_X0_startOf : Room := { frames := 0, cells := 0, slots := 0, locals := 0 }
set_option maxHeartbeats 4000000 in
set_option maxRecDepth 100000 in
theorem c_X0_startOf (l : Launch) (D : va_G) (cI cL cZ : ClassId) (ad : Nat → Nat) (A : Nat → Prop) (tx : XTx) (td : XTd) (dr : XTd) (dy : XDy) (lb : (Nat → Int32)) (pn : (Nat × Nat)) (ps : XSh) (ks : XSh) (si : XSi) (kb : Int32) (pa : Int32)  : Met l yX0_startOf wsX0_startOf rm_X0_startOf (va_Pc [.ref (ad 15), .int pa] (sR D cI cL cZ A (xW cI cL cZ ad tx td dr dy lb pn ps ks si kb))) (vp_Si (fun r => r = (f_X0_startOf dy pa))) 0 0 (fun _ => False) := by
  refine Met.ofW (cc := cX0_startOf) (maxL := 2) (ret := (some .int)) (by decide) rfl ?_
  intro p e s m args below meth c s₁ B hml hv
  obtain ⟨rfl, hP, hK, hD, hE⟩ := hv
  have hx := B.exec
  have hb := B.bytes
  have hr := B.returns
  have hts := atoms_spec (ws := wsX0_startOf) B.pre
  have hown : s.vm.findClass RX0 = some m.cls := findClass_of_methodNamed B.named
  have hlocks := B.notSynchronized
  have hl := lv_entry ([.ref (ad 15), .int pa]) (n := 2) (Nat.le_of_ble_eq_true rfl)
  rw [lg_entry_eq]
  generalize (lg_sl ([.ref (ad 15), .int pa]) ++ List.replicate (2 - (lg_sl ([.ref (ad 15), .int pa])).length) Slot.unset).toArray = ls at hl ⊢
  have hl : lv_has ls 2 [(0, .ref (ad 15)), (1, .int pa)] := hl
  refine lv_iload_n hx hb dX0_startOf_0 rfl (lv_at hl 1 rfl) ?_
  refine mv_phi (v := (if pa < 0 then (-1 : Int32) else (if nI 6 ≤ pa then (-1 : Int32) else (dy.1 pa.toNatClampNeg)))) (pcj := 20) (ls := ls) (rest' := []) ?_ (fun J_1 => ?_)
  · have hf : (f_X0_startOf dy pa) = (if pa < 0 then (-1 : Int32) else (if nI 6 ≤ pa then (-1 : Int32) else (dy.1 pa.toNatClampNeg))) := by rw [f_X0_startOf]
    exact W.iret (v := (if pa < 0 then (-1 : Int32) else (if nI 6 ≤ pa then (-1 : Int32) else (dy.1 pa.toNatClampNeg)))) hx hb hr (fun t ht hW => ⟨(if pa < 0 then (-1 : Int32) else (if nI 6 ≤ pa then (-1 : Int32) else (dy.1 pa.toNatClampNeg))), rfl, hf.symm, ht⟩) (fun _ h => by cases h) dX0_startOf_20
  · refine lv_if_lt (tgt := 19) hx hb dX0_startOf_1 (by decide) (fun c_2 => ?_) (fun c_2 => ?_)
    · refine lv_iconst (v := (-1)) hx hb dX0_startOf_19 rfl ?_
      exact J_1 _ (by rw [if_pos c_2])
    · refine lv_iload_n hx hb dX0_startOf_4 rfl (lv_at hl 1 rfl) ?_
      refine lv_bipush (v := nI 6) hx hb dX0_startOf_5 rfl ?_
      refine lv_icmp_ge (tgt := 19) hx hb dX0_startOf_7 (by decide) (fun c_3 => ?_) (fun c_3 => ?_)
      · refine lv_iconst (v := (-1)) hx hb dX0_startOf_19 rfl ?_
        exact J_1 _ (by rw [if_neg c_2, if_pos c_3])
      · refine lv_aload_n hx hb dX0_startOf_10 rfl (lv_at hl 0 rfl) ?_
        refine va_get (D := D) (ci := 0) (v := .ref (ad 16)) (C := RX0) (T := TX0) (N := 4) hx hb hts (by decide +kernel) hown hK hP 15 rfl rfl 0 (by decide) (hts (.fieldLink RX0 9 "SummitTime$Day" "starts" "[I") (by decide +kernel)) (fun _ h9 => h9) rfl dX0_startOf_11 ?_
        refine lv_iload_n hx hb dX0_startOf_14 rfl (lv_at hl 1 rfl) ?_
        refine va_iald (f := dy.1) hx hb hK hP 16 0 rfl rfl (ix_g 6 (by decide) (by decide) c_2 c_3) dX0_startOf_15 ?_
        refine lv_goto (tgt := 20) hx hb dX0_startOf_16 (by decide) ?_
        exact J_1 _ (by rw [if_neg c_2, if_neg c_3])
def f_X0_isRoped (dy : XDy) (pa : Int32) : Int32 := (if (dy.2.2.1 &&& ((nI 1) <<< (pa &&& 31))) = 0 then nI 0 else nI 1)
theorem f_X0_isRoped_b (dy : XDy) (pa : Int32) : (f_X0_isRoped dy pa) = nI 0 ∨ (f_X0_isRoped dy pa) = nI 1 := by
  unfold f_X0_isRoped
  (repeat' split) <;> first | exact Or.inl rfl | exact Or.inr rfl | exact f_X8_in_b _ _ _
abbrev rm_X0_isRoped : Room := { frames := 0, cells := 0, slots := 0, locals := 0 }
set_option maxHeartbeats 4000000 in
set_option maxRecDepth 100000 in
theorem c_X0_isRoped (l : Launch) (D : va_G) (cI cL cZ : ClassId) (ad : Nat → Nat) (A : Nat → Prop) (tx : XTx) (td : XTd) (dr : XTd) (dy : XDy) (lb : (Nat → Int32)) (pn : (Nat × Nat)) (ps : XSh) (ks : XSh) (si : XSi) (kb : Int32) (pa : Int32)  : Met l yX0_isRoped wsX0_isRoped rm_X0_isRoped (va_Pc [.ref (ad 15), .int pa] (sR D cI cL cZ A (xW cI cL cZ ad tx td dr dy lb pn ps ks si kb))) (vp_Si (fun r => r = (f_X0_isRoped dy pa))) 0 0 (fun _ => False) := by
  refine Met.ofW (cc := cX0_isRoped) (maxL := 2) (ret := (some .boolean)) (by decide) rfl ?_
  intro p e s m args below meth c s₁ B hml hv
  obtain ⟨rfl, hP, hK, hD, hE⟩ := hv
  have hx := B.exec
  have hb := B.bytes
  have hr := B.returns
  have hts := atoms_spec (ws := wsX0_isRoped) B.pre
  have hown : s.vm.findClass RX0 = some m.cls := findClass_of_methodNamed B.named
  have hlocks := B.notSynchronized
  have hl := lv_entry ([.ref (ad 15), .int pa]) (n := 2) (Nat.le_of_ble_eq_true rfl)
  rw [lg_entry_eq]
  generalize (lg_sl ([.ref (ad 15), .int pa]) ++ List.replicate (2 - (lg_sl ([.ref (ad 15), .int pa])).length) Slot.unset).toArray = ls at hl ⊢
  have hl : lv_has ls 2 [(0, .ref (ad 15)), (1, .int pa)] := hl
  refine lv_aload_n hx hb dX0_isRoped_0 rfl (lv_at hl 0 rfl) ?_
  refine va_get (D := D) (ci := 0) (v := .int dy.2.2.1) (C := RX0) (T := TX0) (N := 4) hx hb hts (by decide +kernel) hown hK hP 15 rfl rfl 2 (by decide) (hts (.fieldLink RX0 19 "SummitTime$Day" "ropes" "I") (by decide +kernel)) (fun _ h9 => h9) rfl dX0_isRoped_1 ?_
  refine lv_iconst (v := nI 1) hx hb dX0_isRoped_4 rfl ?_
  refine lv_iload_n hx hb dX0_isRoped_5 rfl (lv_at hl 1 rfl) ?_
  refine lv_ishl hx hb dX0_isRoped_6 ?_
  refine lv_iand hx hb dX0_isRoped_7 ?_
  refine mv_phi (v := (if (dy.2.2.1 &&& ((nI 1) <<< (pa &&& 31))) = 0 then nI 0 else nI 1)) (pcj := 16) (ls := ls) (rest' := []) ?_ (fun J_1 => ?_)
  · have hf : (f_X0_isRoped dy pa) = (if (dy.2.2.1 &&& ((nI 1) <<< (pa &&& 31))) = 0 then nI 0 else nI 1) := by rw [f_X0_isRoped]
    exact W.zret (v := (if (dy.2.2.1 &&& ((nI 1) <<< (pa &&& 31))) = 0 then nI 0 else nI 1)) (ty := .boolean) hx hb hr nb_if (fun t ht hW => ⟨(if (dy.2.2.1 &&& ((nI 1) <<< (pa &&& 31))) = 0 then nI 0 else nI 1), rfl, hf.symm, ht⟩) (fun _ h => by cases h) dX0_isRoped_16
  · refine lv_if_eq (tgt := 15) hx hb dX0_isRoped_8 (by decide) (fun c_2 => ?_) (fun c_2 => ?_)
    · refine lv_iconst (v := nI 0) hx hb dX0_isRoped_15 rfl ?_
      exact J_1 _ (by rw [if_pos c_2])
    · refine lv_iconst (v := nI 1) hx hb dX0_isRoped_11 rfl ?_
      refine lv_goto (tgt := 16) hx hb dX0_isRoped_12 (by decide) ?_
      exact J_1 _ (by rw [if_neg c_2])
def f_X0_landOf (dy : XDy) (pa : Int32) : Int64 := (if pa < 0 then (0 : Int64) else (if nI 6 ≤ pa then (0 : Int64) else (dy.2.1 pa.toNatClampNeg)))
abbrev rm_X0_landOf : Room := { frames := 0, cells := 0, slots := 0, locals := 0 }
set_option maxHeartbeats 4000000 in
set_option maxRecDepth 100000 in
theorem c_X0_landOf (l : Launch) (D : va_G) (cI cL cZ : ClassId) (ad : Nat → Nat) (A : Nat → Prop) (tx : XTx) (td : XTd) (dr : XTd) (dy : XDy) (lb : (Nat → Int32)) (pn : (Nat × Nat)) (ps : XSh) (ks : XSh) (si : XSi) (kb : Int32) (pa : Int32)  : Met l yX0_landOf wsX0_landOf rm_X0_landOf (va_Pc [.ref (ad 15), .int pa] (sR D cI cL cZ A (xW cI cL cZ ad tx td dr dy lb pn ps ks si kb))) (vp_Sl (fun r => r = (f_X0_landOf dy pa))) 0 0 (fun _ => False) := by
  refine Met.ofW (cc := cX0_landOf) (maxL := 2) (ret := (some .long)) (by decide) rfl ?_
  intro p e s m args below meth c s₁ B hml hv
  obtain ⟨rfl, hP, hK, hD, hE⟩ := hv
  have hx := B.exec
  have hb := B.bytes
  have hr := B.returns
  have hts := atoms_spec (ws := wsX0_landOf) B.pre
  have hown : s.vm.findClass RX0 = some m.cls := findClass_of_methodNamed B.named
  have hlocks := B.notSynchronized
  have hl := lv_entry ([.ref (ad 15), .int pa]) (n := 2) (Nat.le_of_ble_eq_true rfl)
  rw [lg_entry_eq]
  generalize (lg_sl ([.ref (ad 15), .int pa]) ++ List.replicate (2 - (lg_sl ([.ref (ad 15), .int pa])).length) Slot.unset).toArray = ls at hl ⊢
  have hl : lv_has ls 2 [(0, .ref (ad 15)), (1, .int pa)] := hl
  refine lv_iload_n hx hb dX0_landOf_0 rfl (lv_at hl 1 rfl) ?_
  refine mv_phil (v := (if pa < 0 then (0 : Int64) else (if nI 6 ≤ pa then (0 : Int64) else (dy.2.1 pa.toNatClampNeg)))) (pcj := 20) (ls := ls) (rest' := []) ?_ (fun J_1 => ?_)
  · have hf : (f_X0_landOf dy pa) = (if pa < 0 then (0 : Int64) else (if nI 6 ≤ pa then (0 : Int64) else (dy.2.1 pa.toNatClampNeg))) := by rw [f_X0_landOf]
    exact W.lret (v := (if pa < 0 then (0 : Int64) else (if nI 6 ≤ pa then (0 : Int64) else (dy.2.1 pa.toNatClampNeg)))) hx hb hr (fun t ht hW => ⟨(if pa < 0 then (0 : Int64) else (if nI 6 ≤ pa then (0 : Int64) else (dy.2.1 pa.toNatClampNeg))), rfl, hf.symm, ht⟩) (fun _ h => by cases h) dX0_landOf_20
  · refine lv_if_lt (tgt := 19) hx hb dX0_landOf_1 (by decide) (fun c_2 => ?_) (fun c_2 => ?_)
    · refine lv_lconst (v := 0) hx hb dX0_landOf_19 rfl ?_
      exact J_1 _ (by rw [if_pos c_2])
    · refine lv_iload_n hx hb dX0_landOf_4 rfl (lv_at hl 1 rfl) ?_
      refine lv_bipush (v := nI 6) hx hb dX0_landOf_5 rfl ?_
      refine lv_icmp_ge (tgt := 19) hx hb dX0_landOf_7 (by decide) (fun c_3 => ?_) (fun c_3 => ?_)
      · refine lv_lconst (v := 0) hx hb dX0_landOf_19 rfl ?_
        exact J_1 _ (by rw [if_neg c_2, if_pos c_3])
      · refine lv_aload_n hx hb dX0_landOf_10 rfl (lv_at hl 0 rfl) ?_
        refine va_get (D := D) (ci := 0) (v := .ref (ad 17)) (C := RX0) (T := TX0) (N := 4) hx hb hts (by decide +kernel) hown hK hP 15 rfl rfl 1 (by decide) (hts (.fieldLink RX0 15 "SummitTime$Day" "lands" "[J") (by decide +kernel)) (fun _ h9 => h9) rfl dX0_landOf_11 ?_
        refine lv_iload_n hx hb dX0_landOf_14 rfl (lv_at hl 1 rfl) ?_
        refine va_lald (f := dy.2.1) hx hb hK hP 17 1 rfl rfl (ix_g 6 (by decide) (by decide) c_2 c_3) dX0_landOf_15 ?_
        refine lv_goto (tgt := 20) hx hb dX0_landOf_16 (by decide) ?_
        exact J_1 _ (by rw [if_neg c_2, if_neg c_3])
def f_X0_setStart (dy : XDy) (pa : Int32) (sec : Int32) : XDy := (if pa < 0 then dy else (if nI 6 ≤ pa then dy else ((upd dy.1 pa.toNatClampNeg sec), dy.2.1, dy.2.2.1, dy.2.2.2)))
abbrev rm_X0_setStart : Room := { frames := 0, cells := 0, slots := 0, locals := 0 }
set_option maxHeartbeats 4000000 in
set_option maxRecDepth 100000 in
theorem c_X0_setStart (l : Launch) (D : va_G) (cI cL cZ : ClassId) (ad : Nat → Nat) (A : Nat → Prop) (tx : XTx) (td : XTd) (dr : XTd) (dy : XDy) (lb : (Nat → Int32)) (pn : (Nat × Nat)) (ps : XSh) (ks : XSh) (si : XSi) (kb : Int32) (pa : Int32) (sec : Int32)  : Met l yX0_setStart wsX0_setStart rm_X0_setStart (va_Pc [.ref (ad 15), .int pa, .int sec] (sR D cI cL cZ A (xW cI cL cZ ad tx td dr dy lb pn ps ks si kb))) (va_Qv (fun (u : XDy) => u = (f_X0_setStart dy pa sec)) (fun (u : XDy) t => va_P D vwCl (xW cI cL cZ ad tx td dr u lb pn ps ks si kb) t.heap) A) 0 0 A := by
  refine Met.ofW (cc := cX0_setStart) (maxL := 3) (ret := none) (by decide) rfl ?_
  intro p e s m args below meth c s₁ B hml hv
  obtain ⟨rfl, hP, hK, hD, hE⟩ := hv
  have hx := B.exec
  have hb := B.bytes
  have hr := B.returns
  have hts := atoms_spec (ws := wsX0_setStart) B.pre
  have hown : s.vm.findClass RX0 = some m.cls := findClass_of_methodNamed B.named
  have hlocks := B.notSynchronized
  have hS : va_S A s.heap s.heap [] := va_S.rf
  have hl := lv_entry ([.ref (ad 15), .int pa, .int sec]) (n := 3) (Nat.le_of_ble_eq_true rfl)
  rw [lg_entry_eq]
  generalize (lg_sl ([.ref (ad 15), .int pa, .int sec]) ++ List.replicate (3 - (lg_sl ([.ref (ad 15), .int pa, .int sec])).length) Slot.unset).toArray = ls at hl ⊢
  have hl : lv_has ls 3 [(0, .ref (ad 15)), (1, .int pa), (2, .int sec)] := hl
  refine lv_iload_n hx hb dX0_setStart_0 rfl (lv_at hl 1 rfl) ?_
  refine lv_if_lt (tgt := 17) hx hb dX0_setStart_1 (by decide) (fun c_1 => ?_) (fun c_1 => ?_)
  · have hf : (f_X0_setStart dy pa sec) = dy := by rw [f_X0_setStart, if_pos c_1]
    exact W.vret hx hb hr (fun t ht hW => ⟨⟨dy, rfl, hf.symm, va_Pt ht hP⟩, hS.F ht⟩) hS.2.2 dX0_setStart_17
  · refine lv_iload_n hx hb dX0_setStart_4 rfl (lv_at hl 1 rfl) ?_
    refine lv_bipush (v := nI 6) hx hb dX0_setStart_5 rfl ?_
    refine lv_icmp_ge (tgt := 17) hx hb dX0_setStart_7 (by decide) (fun c_2 => ?_) (fun c_2 => ?_)
    · have hf : (f_X0_setStart dy pa sec) = dy := by rw [f_X0_setStart, if_neg c_1, if_pos c_2]
      exact W.vret hx hb hr (fun t ht hW => ⟨⟨dy, rfl, hf.symm, va_Pt ht hP⟩, hS.F ht⟩) hS.2.2 dX0_setStart_17
    · refine lv_aload_n hx hb dX0_setStart_10 rfl (lv_at hl 0 rfl) ?_
      refine va_get (D := D) (ci := 0) (v := .ref (ad 16)) (C := RX0) (T := TX0) (N := 4) hx hb hts (by decide +kernel) hown hK hP 15 rfl rfl 0 (by decide) (hts (.fieldLink RX0 9 "SummitTime$Day" "starts" "[I") (by decide +kernel)) (fun _ h9 => h9) rfl dX0_setStart_11 ?_
      refine lv_iload_n hx hb dX0_setStart_14 rfl (lv_at hl 1 rfl) ?_
      refine lv_iload_n hx hb dX0_setStart_15 rfl (lv_at hl 2 rfl) ?_
      refine va_iast (f := dy.1) hx hb hK hP hD hS 16 0 rfl rfl (ix_g 6 (by decide) (by decide) c_1 c_2) dX0_setStart_16 (fun H locs hP hD hS => ?_)
      have hP : va_P D vwCl (xW cI cL cZ ad tx td dr ((upd dy.1 pa.toNatClampNeg sec), dy.2.1, dy.2.2.1, dy.2.2.2) lb pn ps ks si kb) H := hP
      have hD : va_D A (xW cI cL cZ ad tx td dr ((upd dy.1 pa.toNatClampNeg sec), dy.2.1, dy.2.2.1, dy.2.2.2) lb pn ps ks si kb) := hD
      have hf : (f_X0_setStart dy pa sec) = ((upd dy.1 pa.toNatClampNeg sec), dy.2.1, dy.2.2.1, dy.2.2.2) := by rw [f_X0_setStart, if_neg c_1, if_neg c_2]
      exact W.vret hx hb hr (fun t ht hW => ⟨⟨((upd dy.1 pa.toNatClampNeg sec), dy.2.1, dy.2.2.1, dy.2.2.2), rfl, hf.symm, va_Pt ht hP⟩, hS.F ht⟩) hS.2.2 dX0_setStart_17
def f_X0_setRope (dy : XDy) (pa : Int32) (on : Int32) : XDy := (dy.1, dy.2.1, (if on = 0 then (dy.2.2.1 &&& (((nI 1) <<< (pa &&& 31)) ^^^ (-1 : Int32))) else (dy.2.2.1 ||| ((nI 1) <<< (pa &&& 31)))), dy.2.2.2)
abbrev rm_X0_setRope : Room := { frames := 0, cells := 0, slots := 0, locals := 0 }
set_option maxHeartbeats 4000000 in
set_option maxRecDepth 100000 in
theorem c_X0_setRope (l : Launch) (D : va_G) (cI cL cZ : ClassId) (ad : Nat → Nat) (A : Nat → Prop) (tx : XTx) (td : XTd) (dr : XTd) (dy : XDy) (lb : (Nat → Int32)) (pn : (Nat × Nat)) (ps : XSh) (ks : XSh) (si : XSi) (kb : Int32) (pa : Int32) (on : Int32)  : Met l yX0_setRope wsX0_setRope rm_X0_setRope (va_Pc [.ref (ad 15), .int pa, .int on] (sR D cI cL cZ A (xW cI cL cZ ad tx td dr dy lb pn ps ks si kb))) (va_Qv (fun (u : XDy) => u = (f_X0_setRope dy pa on)) (fun (u : XDy) t => va_P D vwCl (xW cI cL cZ ad tx td dr u lb pn ps ks si kb) t.heap) A) 0 0 A := by
  refine Met.ofW (cc := cX0_setRope) (maxL := 3) (ret := none) (by decide) rfl ?_
  intro p e s m args below meth c s₁ B hml hv
  obtain ⟨rfl, hP, hK, hD, hE⟩ := hv
  have hx := B.exec
  have hb := B.bytes
  have hr := B.returns
  have hts := atoms_spec (ws := wsX0_setRope) B.pre
  have hown : s.vm.findClass RX0 = some m.cls := findClass_of_methodNamed B.named
  have hlocks := B.notSynchronized
  have hS : va_S A s.heap s.heap [] := va_S.rf
  have hl := lv_entry ([.ref (ad 15), .int pa, .int on]) (n := 3) (Nat.le_of_ble_eq_true rfl)
  rw [lg_entry_eq]
  generalize (lg_sl ([.ref (ad 15), .int pa, .int on]) ++ List.replicate (3 - (lg_sl ([.ref (ad 15), .int pa, .int on])).length) Slot.unset).toArray = ls at hl ⊢
  have hl : lv_has ls 3 [(0, .ref (ad 15)), (1, .int pa), (2, .int on)] := hl
  refine lv_aload_n hx hb dX0_setRope_0 rfl (lv_at hl 0 rfl) ?_
  refine lv_iload_n hx hb dX0_setRope_1 rfl (lv_at hl 2 rfl) ?_
  refine mv_phi (v := (if on = 0 then (dy.2.2.1 &&& (((nI 1) <<< (pa &&& 31)) ^^^ (-1 : Int32))) else (dy.2.2.1 ||| ((nI 1) <<< (pa &&& 31))))) (pcj := 26) (ls := ls) (rest' := [.ref (ad 15)]) ?_ (fun J_1 => ?_)
  · refine va_put (D := D) (ci := 0) (v := .int (if on = 0 then (dy.2.2.1 &&& (((nI 1) <<< (pa &&& 31)) ^^^ (-1 : Int32))) else (dy.2.2.1 ||| ((nI 1) <<< (pa &&& 31))))) (ty := .int) (C := RX0) (T := TX0) (N := 4) hx hb hts (by decide +kernel) tyX0 tyX0_ok nmX0 hown hK hP hD hS 15 rfl rfl 2 (by decide) (hts (.fieldLink RX0 19 "SummitTime$Day" "ropes" "I") (by decide +kernel)) (fun _ h9 => h9) rfl (by decide +kernel) rfl rfl (Nat.le_of_ble_eq_true rfl) dX0_setRope_26 (fun H locs hP hD hS => ?_)
    have hP : va_P D vwCl (xW cI cL cZ ad tx td dr (dy.1, dy.2.1, (if on = 0 then (dy.2.2.1 &&& (((nI 1) <<< (pa &&& 31)) ^^^ (-1 : Int32))) else (dy.2.2.1 ||| ((nI 1) <<< (pa &&& 31)))), dy.2.2.2) lb pn ps ks si kb) H := hP
    have hD : va_D A (xW cI cL cZ ad tx td dr (dy.1, dy.2.1, (if on = 0 then (dy.2.2.1 &&& (((nI 1) <<< (pa &&& 31)) ^^^ (-1 : Int32))) else (dy.2.2.1 ||| ((nI 1) <<< (pa &&& 31)))), dy.2.2.2) lb pn ps ks si kb) := hD
    have hf : (f_X0_setRope dy pa on) = (dy.1, dy.2.1, (if on = 0 then (dy.2.2.1 &&& (((nI 1) <<< (pa &&& 31)) ^^^ (-1 : Int32))) else (dy.2.2.1 ||| ((nI 1) <<< (pa &&& 31)))), dy.2.2.2) := by rw [f_X0_setRope]
    exact W.vret hx hb hr (fun t ht hW => ⟨⟨(dy.1, dy.2.1, (if on = 0 then (dy.2.2.1 &&& (((nI 1) <<< (pa &&& 31)) ^^^ (-1 : Int32))) else (dy.2.2.1 ||| ((nI 1) <<< (pa &&& 31)))), dy.2.2.2), rfl, hf.symm, va_Pt ht hP⟩, hS.F ht⟩) hS.2.2 dX0_setRope_29
  · refine lv_if_eq (tgt := 16) hx hb dX0_setRope_2 (by decide) (fun c_2 => ?_) (fun c_2 => ?_)
    · refine lv_aload_n hx hb dX0_setRope_16 rfl (lv_at hl 0 rfl) ?_
      refine va_get (D := D) (ci := 0) (v := .int dy.2.2.1) (C := RX0) (T := TX0) (N := 4) hx hb hts (by decide +kernel) hown hK hP 15 rfl rfl 2 (by decide) (hts (.fieldLink RX0 19 "SummitTime$Day" "ropes" "I") (by decide +kernel)) (fun _ h9 => h9) rfl dX0_setRope_17 ?_
      refine lv_iconst (v := nI 1) hx hb dX0_setRope_20 rfl ?_
      refine lv_iload_n hx hb dX0_setRope_21 rfl (lv_at hl 1 rfl) ?_
      refine lv_ishl hx hb dX0_setRope_22 ?_
      refine lv_iconst (v := (-1)) hx hb dX0_setRope_23 rfl ?_
      refine lv_ixor hx hb dX0_setRope_24 ?_
      refine lv_iand hx hb dX0_setRope_25 ?_
      exact J_1 _ (by rw [if_pos c_2])
    · refine lv_aload_n hx hb dX0_setRope_5 rfl (lv_at hl 0 rfl) ?_
      refine va_get (D := D) (ci := 0) (v := .int dy.2.2.1) (C := RX0) (T := TX0) (N := 4) hx hb hts (by decide +kernel) hown hK hP 15 rfl rfl 2 (by decide) (hts (.fieldLink RX0 19 "SummitTime$Day" "ropes" "I") (by decide +kernel)) (fun _ h9 => h9) rfl dX0_setRope_6 ?_
      refine lv_iconst (v := nI 1) hx hb dX0_setRope_9 rfl ?_
      refine lv_iload_n hx hb dX0_setRope_10 rfl (lv_at hl 1 rfl) ?_
      refine lv_ishl hx hb dX0_setRope_11 ?_
      refine lv_ior hx hb dX0_setRope_12 ?_
      refine lv_goto (tgt := 26) hx hb dX0_setRope_13 (by decide) ?_
      exact J_1 _ (by rw [if_neg c_2])
def L_X0_whoGo_4 (dy : XDy) : Nat → Nat → Int32 → Int32
  | 0, _, x1_4 => x1_4
  | n_4 + 1, k_4, x1_4 => (if (dy.1 k_4) = (-1 : Int32) then (L_X0_whoGo_4 dy n_4 (k_4 + 1) x1_4) else (L_X0_whoGo_4 dy n_4 (k_4 + 1) (x1_4 ||| ((nI 1) <<< ((nI k_4) &&& 31)))))
def f_X0_whoGo (dy : XDy) : Int32 := (L_X0_whoGo_4 dy 6 0 (nI 0))
abbrev rm_X0_whoGo : Room := { frames := 0, cells := 0, slots := 0, locals := 0 }
set_option maxHeartbeats 4000000 in
set_option maxRecDepth 100000 in
theorem c_X0_whoGo (l : Launch) (D : va_G) (cI cL cZ : ClassId) (ad : Nat → Nat) (A : Nat → Prop) (tx : XTx) (td : XTd) (dr : XTd) (dy : XDy) (lb : (Nat → Int32)) (pn : (Nat × Nat)) (ps : XSh) (ks : XSh) (si : XSi) (kb : Int32)   : Met l yX0_whoGo wsX0_whoGo rm_X0_whoGo (va_Pc [.ref (ad 15)] (sR D cI cL cZ A (xW cI cL cZ ad tx td dr dy lb pn ps ks si kb))) (vp_Si (fun r => r = (f_X0_whoGo dy))) 0 0 (fun _ => False) := by
  refine Met.ofW (cc := cX0_whoGo) (maxL := 3) (ret := (some .int)) (by decide) rfl ?_
  intro p e s m args below meth c s₁ B hml hv
  obtain ⟨rfl, hP, hK, hD, hE⟩ := hv
  have hx := B.exec
  have hb := B.bytes
  have hr := B.returns
  have hts := atoms_spec (ws := wsX0_whoGo) B.pre
  have hown : s.vm.findClass RX0 = some m.cls := findClass_of_methodNamed B.named
  have hlocks := B.notSynchronized
  have hl := lv_entry ([.ref (ad 15)]) (n := 3) (Nat.le_of_ble_eq_true rfl)
  rw [lg_entry_eq]
  generalize (lg_sl ([.ref (ad 15)]) ++ List.replicate (3 - (lg_sl ([.ref (ad 15)])).length) Slot.unset).toArray = ls at hl ⊢
  have hl : lv_has ls 3 [(0, .ref (ad 15))] := hl
  obtain ⟨Q, hQe⟩ : ∃ Q, Q = MQ below (vp_Si (fun r => r = (f_X0_whoGo dy))) ([.ref (ad 15)] : List Value).toArray s 0 0 (fun _ => False) := ⟨_, rfl⟩
  show W p l e (headSpec wsX0_whoGo rm_X0_whoGo).room s m ([.ref (ad 15)] : List Value).toArray below meth c s.heap [] 0 0 (MQ below (vp_Si (fun r => r = (f_X0_whoGo dy))) ([.ref (ad 15)] : List Value).toArray s 0 0 (fun _ => False)) (F0 m 0 ls [])
  rw [← hQe]
  refine lv_iconst (v := nI 0) hx hb dX0_whoGo_0 rfl ?_
  refine lv_istore_n (lv' := [(1, .int (nI 0)), (0, .ref (ad 15))]) hx hb dX0_whoGo_1 rfl hl (by decide) rfl (fun ls hl => ?_)
  refine lv_iconst (v := nI 0) hx hb dX0_whoGo_2 rfl ?_
  refine lv_istore_n (lv' := [(2, .int (nI 0)), (1, .int (nI 0)), (0, .ref (ad 15))]) hx hb dX0_whoGo_3 rfl hl (by decide) rfl (fun ls hl => ?_)
  obtain ⟨T_4_1, hT_4_1⟩ : ∃ z, z = (L_X0_whoGo_4 dy 6 0 (nI 0)) := ⟨_, rfl⟩
  have hexit_4 : ∀ (ls : Array Slot), lv_has ls 3 [(1, .int T_4_1), (0, .ref (ad 15))] → W p l e (headSpec wsX0_whoGo rm_X0_whoGo).room s m ([.ref (ad 15)] : List Value).toArray below meth c s.heap [] 0 0 Q (F0 m 32 ls []) := by
    intro ls hl
    refine lv_iload_n hx hb dX0_whoGo_32 rfl (lv_at hl 0 rfl) ?_
    subst hQe
    have hf : (f_X0_whoGo dy) = T_4_1 := by rw [f_X0_whoGo]; (try rw [← hT_4_1]); first | done | rfl
    exact W.iret (v := T_4_1) hx hb hr (fun t ht hW => ⟨T_4_1, rfl, hf.symm, ht⟩) (fun _ h => by cases h) dX0_whoGo_33
  have loop_4 : ∀ (n_4 : Nat) (k_4 : Nat) (x1_4 : Int32), (k_4 + n_4 = 6) → L_X0_whoGo_4 dy n_4 k_4 x1_4 = T_4_1 → ∀ (ls : Array Slot), lv_has ls 3 [(2, .int (nI k_4)), (1, .int x1_4), (0, .ref (ad 15))] → W p l e (headSpec wsX0_whoGo rm_X0_whoGo).room s m ([.ref (ad 15)] : List Value).toArray below meth c s.heap [] 0 0 Q (F0 m 4 ls []) := by
    intro n_4
    induction n_4 with
    | zero =>
      intro k_4 x1_4 hk_4 hL_4 ls hl
      refine lv_iload_n hx hb dX0_whoGo_4 rfl (lv_at hl 0 rfl) ?_
      refine lv_bipush (v := nI 6) hx hb dX0_whoGo_5 rfl ?_
      refine mv_icmp_ge (tgt := 32) hx hb dX0_whoGo_7 (by decide) (by omega) (by decide) (fun c_3 => ?_) (fun c_3 => (by omega : False).elim)
      have e9 : T_4_1 = x1_4 := by rw [← hL_4, L_X0_whoGo_4]
      have hq := hexit_4
      rw [e9] at hq
      exact hq ls  (lv_sub hl [1, 2] rfl)
    | succ n_4 ih_4 =>
      intro k_4 x1_4 hk_4 hL_4 ls hl
      refine lv_iload_n hx hb dX0_whoGo_4 rfl (lv_at hl 0 rfl) ?_
      refine lv_bipush (v := nI 6) hx hb dX0_whoGo_5 rfl ?_
      refine mv_icmp_ge (tgt := 32) hx hb dX0_whoGo_7 (by decide) (by omega) (by decide) (fun c_1 => (by omega : False).elim) (fun c_1 => ?_)
      refine lv_aload_n hx hb dX0_whoGo_10 rfl (lv_at hl 2 rfl) ?_
      refine va_get (D := D) (ci := 0) (v := .ref (ad 16)) (C := RX0) (T := TX0) (N := 4) hx hb hts (by decide +kernel) hown hK hP 15 rfl rfl 0 (by decide) (hts (.fieldLink RX0 9 "SummitTime$Day" "starts" "[I") (by decide +kernel)) (fun _ h9 => h9) rfl dX0_whoGo_11 ?_
      refine lv_iload_n hx hb dX0_whoGo_14 rfl (lv_at hl 0 rfl) ?_
      refine mv_iald (f := dy.1) hx hb hK hP 16 0 rfl rfl (by omega) (by decide) dX0_whoGo_15 ?_
      refine lv_iconst (v := (-1)) hx hb dX0_whoGo_16 rfl ?_
      refine lv_icmp_eq (tgt := 26) hx hb dX0_whoGo_17 (by decide) (fun c_2 => ?_) (fun c_2 => ?_)
      · refine mv_iinc (y := k_4 + 1) (lv' := [(2, .int (nI (k_4 + 1))), (1, .int x1_4), (0, .ref (ad 15))]) hx hb dX0_whoGo_26 hl (k := 0) rfl (nI_p1 _) (by decide) rfl (fun ls hl => ?_)
        refine lv_goto (tgt := 4) hx hb dX0_whoGo_29 (by decide) ?_
        exact ih_4 (k_4 + 1) x1_4 (by omega) (by have e9 := hL_4; rw [L_X0_whoGo_4, if_pos c_2] at e9; exact e9) ls (lv_sub hl [0, 1, 2] rfl)
      · refine lv_iload_n hx hb dX0_whoGo_20 rfl (lv_at hl 1 rfl) ?_
        refine lv_iconst (v := nI 1) hx hb dX0_whoGo_21 rfl ?_
        refine lv_iload_n hx hb dX0_whoGo_22 rfl (lv_at hl 0 rfl) ?_
        refine lv_ishl hx hb dX0_whoGo_23 ?_
        refine lv_ior hx hb dX0_whoGo_24 ?_
        refine lv_istore_n (lv' := [(1, .int (x1_4 ||| ((nI 1) <<< ((nI k_4) &&& 31)))), (2, .int (nI k_4)), (0, .ref (ad 15))]) hx hb dX0_whoGo_25 rfl hl (by decide) rfl (fun ls hl => ?_)
        refine mv_iinc (y := k_4 + 1) (lv' := [(2, .int (nI (k_4 + 1))), (1, .int (x1_4 ||| ((nI 1) <<< ((nI k_4) &&& 31)))), (0, .ref (ad 15))]) hx hb dX0_whoGo_26 hl (k := 1) rfl (nI_p1 _) (by decide) rfl (fun ls hl => ?_)
        refine lv_goto (tgt := 4) hx hb dX0_whoGo_29 (by decide) ?_
        exact ih_4 (k_4 + 1) (x1_4 ||| ((nI 1) <<< ((nI k_4) &&& 31))) (by omega) (by have e9 := hL_4; rw [L_X0_whoGo_4, if_neg c_2] at e9; exact e9) ls (lv_sub hl [0, 1, 2] rfl)
  exact loop_4 6 0 (nI 0) (by omega) hT_4_1.symm ls (lv_sub hl [0, 1, 2] rfl)
def L_X0_landOfAll_4 (dy : XDy) : Nat → Nat → Int64 → Int64
  | 0, _, x1_4 => x1_4
  | n_4 + 1, k_4, x1_4 => (L_X0_landOfAll_4 dy n_4 (k_4 + 1) (x1_4 ||| (dy.2.1 k_4)))
def f_X0_landOfAll (dy : XDy) : Int64 := (L_X0_landOfAll_4 dy 6 0 (0 : Int64))
abbrev rm_X0_landOfAll : Room := { frames := 0, cells := 0, slots := 0, locals := 0 }
set_option maxHeartbeats 4000000 in
set_option maxRecDepth 100000 in
theorem c_X0_landOfAll (l : Launch) (D : va_G) (cI cL cZ : ClassId) (ad : Nat → Nat) (A : Nat → Prop) (tx : XTx) (td : XTd) (dr : XTd) (dy : XDy) (lb : (Nat → Int32)) (pn : (Nat × Nat)) (ps : XSh) (ks : XSh) (si : XSi) (kb : Int32)   : Met l yX0_landOfAll wsX0_landOfAll rm_X0_landOfAll (va_Pc [.ref (ad 15)] (sR D cI cL cZ A (xW cI cL cZ ad tx td dr dy lb pn ps ks si kb))) (vp_Sl (fun r => r = (f_X0_landOfAll dy))) 0 0 (fun _ => False) := by
  refine Met.ofW (cc := cX0_landOfAll) (maxL := 4) (ret := (some .long)) (by decide) rfl ?_
  intro p e s m args below meth c s₁ B hml hv
  obtain ⟨rfl, hP, hK, hD, hE⟩ := hv
  have hx := B.exec
  have hb := B.bytes
  have hr := B.returns
  have hts := atoms_spec (ws := wsX0_landOfAll) B.pre
  have hown : s.vm.findClass RX0 = some m.cls := findClass_of_methodNamed B.named
  have hlocks := B.notSynchronized
  have hl := lv_entry ([.ref (ad 15)]) (n := 4) (Nat.le_of_ble_eq_true rfl)
  rw [lg_entry_eq]
  generalize (lg_sl ([.ref (ad 15)]) ++ List.replicate (4 - (lg_sl ([.ref (ad 15)])).length) Slot.unset).toArray = ls at hl ⊢
  have hl : lv_has ls 4 [(0, .ref (ad 15))] := hl
  obtain ⟨Q, hQe⟩ : ∃ Q, Q = MQ below (vp_Sl (fun r => r = (f_X0_landOfAll dy))) ([.ref (ad 15)] : List Value).toArray s 0 0 (fun _ => False) := ⟨_, rfl⟩
  show W p l e (headSpec wsX0_landOfAll rm_X0_landOfAll).room s m ([.ref (ad 15)] : List Value).toArray below meth c s.heap [] 0 0 (MQ below (vp_Sl (fun r => r = (f_X0_landOfAll dy))) ([.ref (ad 15)] : List Value).toArray s 0 0 (fun _ => False)) (F0 m 0 ls [])
  rw [← hQe]
  refine lv_lconst (v := 0) hx hb dX0_landOfAll_0 rfl ?_
  refine lv_lstore_n (lv' := [(1, .long (0 : Int64)), (0, .ref (ad 15))]) hx hb dX0_landOfAll_1 rfl hl (by decide) rfl (fun ls hl => ?_)
  refine lv_iconst (v := nI 0) hx hb dX0_landOfAll_2 rfl ?_
  refine lv_istore_n (lv' := [(3, .int (nI 0)), (1, .long (0 : Int64)), (0, .ref (ad 15))]) hx hb dX0_landOfAll_3 rfl hl (by decide) rfl (fun ls hl => ?_)
  obtain ⟨T_4_1, hT_4_1⟩ : ∃ z, z = (L_X0_landOfAll_4 dy 6 0 (0 : Int64)) := ⟨_, rfl⟩
  have hexit_4 : ∀ (ls : Array Slot), lv_has ls 4 [(1, .long T_4_1), (0, .ref (ad 15))] → W p l e (headSpec wsX0_landOfAll rm_X0_landOfAll).room s m ([.ref (ad 15)] : List Value).toArray below meth c s.heap [] 0 0 Q (F0 m 25 ls []) := by
    intro ls hl
    refine lv_lload_n hx hb dX0_landOfAll_25 rfl (lv_at hl 0 rfl) ?_
    subst hQe
    have hf : (f_X0_landOfAll dy) = T_4_1 := by rw [f_X0_landOfAll]; (try rw [← hT_4_1]); first | done | rfl
    exact W.lret (v := T_4_1) hx hb hr (fun t ht hW => ⟨T_4_1, rfl, hf.symm, ht⟩) (fun _ h => by cases h) dX0_landOfAll_26
  have loop_4 : ∀ (n_4 : Nat) (k_4 : Nat) (x1_4 : Int64), (k_4 + n_4 = 6) → L_X0_landOfAll_4 dy n_4 k_4 x1_4 = T_4_1 → ∀ (ls : Array Slot), lv_has ls 4 [(3, .int (nI k_4)), (1, .long x1_4), (0, .ref (ad 15))] → W p l e (headSpec wsX0_landOfAll rm_X0_landOfAll).room s m ([.ref (ad 15)] : List Value).toArray below meth c s.heap [] 0 0 Q (F0 m 4 ls []) := by
    intro n_4
    induction n_4 with
    | zero =>
      intro k_4 x1_4 hk_4 hL_4 ls hl
      refine lv_iload_n hx hb dX0_landOfAll_4 rfl (lv_at hl 0 rfl) ?_
      refine lv_bipush (v := nI 6) hx hb dX0_landOfAll_5 rfl ?_
      refine mv_icmp_ge (tgt := 25) hx hb dX0_landOfAll_7 (by decide) (by omega) (by decide) (fun c_2 => ?_) (fun c_2 => (by omega : False).elim)
      have e9 : T_4_1 = x1_4 := by rw [← hL_4, L_X0_landOfAll_4]
      have hq := hexit_4
      rw [e9] at hq
      exact hq ls  (lv_sub hl [1, 2] rfl)
    | succ n_4 ih_4 =>
      intro k_4 x1_4 hk_4 hL_4 ls hl
      refine lv_iload_n hx hb dX0_landOfAll_4 rfl (lv_at hl 0 rfl) ?_
      refine lv_bipush (v := nI 6) hx hb dX0_landOfAll_5 rfl ?_
      refine mv_icmp_ge (tgt := 25) hx hb dX0_landOfAll_7 (by decide) (by omega) (by decide) (fun c_1 => (by omega : False).elim) (fun c_1 => ?_)
      refine lv_lload_n hx hb dX0_landOfAll_10 rfl (lv_at hl 1 rfl) ?_
      refine lv_aload_n hx hb dX0_landOfAll_11 rfl (lv_at hl 2 rfl) ?_
      refine va_get (D := D) (ci := 0) (v := .ref (ad 17)) (C := RX0) (T := TX0) (N := 4) hx hb hts (by decide +kernel) hown hK hP 15 rfl rfl 1 (by decide) (hts (.fieldLink RX0 15 "SummitTime$Day" "lands" "[J") (by decide +kernel)) (fun _ h9 => h9) rfl dX0_landOfAll_12 ?_
      refine lv_iload_n hx hb dX0_landOfAll_15 rfl (lv_at hl 0 rfl) ?_
      refine mv_lald (f := dy.2.1) hx hb hK hP 17 1 rfl rfl (by omega) (by decide) dX0_landOfAll_16 ?_
      refine lv_lor hx hb dX0_landOfAll_17 ?_
      refine lv_lstore_n (lv' := [(1, .long (x1_4 ||| (dy.2.1 k_4))), (3, .int (nI k_4)), (0, .ref (ad 15))]) hx hb dX0_landOfAll_18 rfl hl (by decide) rfl (fun ls hl => ?_)
      refine mv_iinc (y := k_4 + 1) (lv' := [(3, .int (nI (k_4 + 1))), (1, .long (x1_4 ||| (dy.2.1 k_4))), (0, .ref (ad 15))]) hx hb dX0_landOfAll_19 hl (k := 1) rfl (nI_p1 _) (by decide) rfl (fun ls hl => ?_)
      refine lv_goto (tgt := 4) hx hb dX0_landOfAll_22 (by decide) ?_
      exact ih_4 (k_4 + 1) (x1_4 ||| (dy.2.1 k_4)) (by omega) (by have e9 := hL_4; rw [L_X0_landOfAll_4] at e9; exact e9) ls (lv_sub hl [0, 1, 2] rfl)
  exact loop_4 6 0 (0 : Int64) (by omega) hT_4_1.symm ls (lv_sub hl [0, 1, 2] rfl)
def L_X0_ownerOf_2 (dy : XDy) (sec : Int32) : Nat → Nat → Int32
  | 0, _ => (-1 : Int32)
  | n_2 + 1, k_2 => (if (lg_cmp ((dy.2.1 k_2) &&& ((1 : Int64) <<< (sec.toInt64 &&& 63))) (0 : Int64)) = 0 then (L_X0_ownerOf_2 dy sec n_2 (k_2 + 1)) else nI k_2)
def f_X0_ownerOf (dy : XDy) (sec : Int32) : Int32 := (L_X0_ownerOf_2 dy sec 6 0)
abbrev rm_X0_ownerOf : Room := { frames := 0, cells := 0, slots := 0, locals := 0 }
set_option maxHeartbeats 4000000 in
set_option maxRecDepth 100000 in
theorem c_X0_ownerOf (l : Launch) (D : va_G) (cI cL cZ : ClassId) (ad : Nat → Nat) (A : Nat → Prop) (tx : XTx) (td : XTd) (dr : XTd) (dy : XDy) (lb : (Nat → Int32)) (pn : (Nat × Nat)) (ps : XSh) (ks : XSh) (si : XSi) (kb : Int32) (sec : Int32)  : Met l yX0_ownerOf wsX0_ownerOf rm_X0_ownerOf (va_Pc [.ref (ad 15), .int sec] (sR D cI cL cZ A (xW cI cL cZ ad tx td dr dy lb pn ps ks si kb))) (vp_Si (fun r => r = (f_X0_ownerOf dy sec))) 0 0 (fun _ => False) := by
  refine Met.ofW (cc := cX0_ownerOf) (maxL := 3) (ret := (some .int)) (by decide) rfl ?_
  intro p e s m args below meth c s₁ B hml hv
  obtain ⟨rfl, hP, hK, hD, hE⟩ := hv
  have hx := B.exec
  have hb := B.bytes
  have hr := B.returns
  have hts := atoms_spec (ws := wsX0_ownerOf) B.pre
  have hown : s.vm.findClass RX0 = some m.cls := findClass_of_methodNamed B.named
  have hlocks := B.notSynchronized
  have hl := lv_entry ([.ref (ad 15), .int sec]) (n := 3) (Nat.le_of_ble_eq_true rfl)
  rw [lg_entry_eq]
  generalize (lg_sl ([.ref (ad 15), .int sec]) ++ List.replicate (3 - (lg_sl ([.ref (ad 15), .int sec])).length) Slot.unset).toArray = ls at hl ⊢
  have hl : lv_has ls 3 [(0, .ref (ad 15)), (1, .int sec)] := hl
  obtain ⟨Q, hQe⟩ : ∃ Q, Q = MQ below (vp_Si (fun r => r = (f_X0_ownerOf dy sec))) ([.ref (ad 15), .int sec] : List Value).toArray s 0 0 (fun _ => False) := ⟨_, rfl⟩
  show W p l e (headSpec wsX0_ownerOf rm_X0_ownerOf).room s m ([.ref (ad 15), .int sec] : List Value).toArray below meth c s.heap [] 0 0 (MQ below (vp_Si (fun r => r = (f_X0_ownerOf dy sec))) ([.ref (ad 15), .int sec] : List Value).toArray s 0 0 (fun _ => False)) (F0 m 0 ls [])
  rw [← hQe]
  obtain ⟨RES, hRES⟩ : ∃ z, z = (f_X0_ownerOf dy sec) := ⟨_, rfl⟩
  refine lv_iconst (v := nI 0) hx hb dX0_ownerOf_0 rfl ?_
  refine lv_istore_n (lv' := [(2, .int (nI 0)), (0, .ref (ad 15)), (1, .int sec)]) hx hb dX0_ownerOf_1 rfl hl (by decide) rfl (fun ls hl => ?_)
  have loop_2 : ∀ (n_2 : Nat) (k_2 : Nat) , (k_2 + n_2 = 6) → L_X0_ownerOf_2 dy sec n_2 k_2 = RES → ∀ (ls : Array Slot), lv_has ls 3 [(2, .int (nI k_2)), (0, .ref (ad 15)), (1, .int sec)] → W p l e (headSpec wsX0_ownerOf rm_X0_ownerOf).room s m ([.ref (ad 15), .int sec] : List Value).toArray below meth c s.heap [] 0 0 Q (F0 m 2 ls []) := by
    intro n_2
    induction n_2 with
    | zero =>
      intro k_2 hk_2 hL_2 ls hl
      refine lv_iload_n hx hb dX0_ownerOf_2 rfl (lv_at hl 0 rfl) ?_
      refine lv_bipush (v := nI 6) hx hb dX0_ownerOf_3 rfl ?_
      refine mv_icmp_ge (tgt := 31) hx hb dX0_ownerOf_5 (by decide) (by omega) (by decide) (fun c_3 => ?_) (fun c_3 => (by omega : False).elim)
      refine lv_iconst (v := (-1)) hx hb dX0_ownerOf_31 rfl ?_
      subst hQe
      have hf : (f_X0_ownerOf dy sec) = (-1 : Int32) := by rw [← hRES, ← hL_2, L_X0_ownerOf_2]
      exact W.iret (v := (-1 : Int32)) hx hb hr (fun t ht hW => ⟨(-1 : Int32), rfl, hf.symm, ht⟩) (fun _ h => by cases h) dX0_ownerOf_32
    | succ n_2 ih_2 =>
      intro k_2 hk_2 hL_2 ls hl
      refine lv_iload_n hx hb dX0_ownerOf_2 rfl (lv_at hl 0 rfl) ?_
      refine lv_bipush (v := nI 6) hx hb dX0_ownerOf_3 rfl ?_
      refine mv_icmp_ge (tgt := 31) hx hb dX0_ownerOf_5 (by decide) (by omega) (by decide) (fun c_1 => (by omega : False).elim) (fun c_1 => ?_)
      refine lv_aload_n hx hb dX0_ownerOf_8 rfl (lv_at hl 1 rfl) ?_
      refine va_get (D := D) (ci := 0) (v := .ref (ad 17)) (C := RX0) (T := TX0) (N := 4) hx hb hts (by decide +kernel) hown hK hP 15 rfl rfl 1 (by decide) (hts (.fieldLink RX0 15 "SummitTime$Day" "lands" "[J") (by decide +kernel)) (fun _ h9 => h9) rfl dX0_ownerOf_9 ?_
      refine lv_iload_n hx hb dX0_ownerOf_12 rfl (lv_at hl 0 rfl) ?_
      refine mv_lald (f := dy.2.1) hx hb hK hP 17 1 rfl rfl (by omega) (by decide) dX0_ownerOf_13 ?_
      refine lv_lconst (v := 1) hx hb dX0_ownerOf_14 rfl ?_
      refine lv_iload_n hx hb dX0_ownerOf_15 rfl (lv_at hl 2 rfl) ?_
      refine lv_lshl hx hb dX0_ownerOf_16 rfl ?_
      refine lv_land hx hb dX0_ownerOf_17 ?_
      refine lv_lconst (v := 0) hx hb dX0_ownerOf_18 rfl ?_
      refine W.lcmp hx hb dX0_ownerOf_19 ?_
      refine lv_if_eq (tgt := 25) hx hb dX0_ownerOf_20 (by decide) (fun c_2 => ?_) (fun c_2 => ?_)
      · refine mv_iinc (y := k_2 + 1) (lv' := [(2, .int (nI (k_2 + 1))), (0, .ref (ad 15)), (1, .int sec)]) hx hb dX0_ownerOf_25 hl (k := 0) rfl (nI_p1 _) (by decide) rfl (fun ls hl => ?_)
        refine lv_goto (tgt := 2) hx hb dX0_ownerOf_28 (by decide) ?_
        exact ih_2 (k_2 + 1)  (by omega) (by have e9 := hL_2; rw [L_X0_ownerOf_2, if_pos c_2] at e9; exact e9) ls (lv_sub hl [0, 1, 2] rfl)
      · refine lv_iload_n hx hb dX0_ownerOf_23 rfl (lv_at hl 0 rfl) ?_
        subst hQe
        have hf : (f_X0_ownerOf dy sec) = nI k_2 := by rw [← hRES, ← hL_2, L_X0_ownerOf_2, if_neg c_2]
        exact W.iret (v := nI k_2) hx hb hr (fun t ht hW => ⟨nI k_2, rfl, hf.symm, ht⟩) (fun _ h => by cases h) dX0_ownerOf_24
  exact loop_2 6 0 (by omega) (by rw [hRES, f_X0_ownerOf]) ls (lv_sub hl [0, 1, 2] rfl)
def L_X0_give_3 (sx : Int64) (pa : Int32) : Nat → Nat → (Nat → Int64) → (Nat → Int64)
  | 0, _, wdy1_3 => wdy1_3
  | n_3 + 1, k_3, wdy1_3 => (L_X0_give_3 sx pa n_3 (k_3 + 1) (vp_updL wdy1_3 k_3 (if nI k_3 = pa then ((wdy1_3 k_3) ||| sx) else ((wdy1_3 k_3) &&& (sx ^^^ (-1 : Int64))))))
def f_X0_give (dy : XDy) (sx : Int64) (pa : Int32) : XDy := (dy.1, (L_X0_give_3 sx pa 6 0 dy.2.1), dy.2.2.1, dy.2.2.2)
abbrev rm_X0_give : Room := { frames := 0, cells := 0, slots := 0, locals := 0 }
set_option maxHeartbeats 4000000 in
set_option maxRecDepth 100000 in
theorem c_X0_give (l : Launch) (D : va_G) (cI cL cZ : ClassId) (ad : Nat → Nat) (A : Nat → Prop) (tx : XTx) (td : XTd) (dr : XTd) (dy : XDy) (lb : (Nat → Int32)) (pn : (Nat × Nat)) (ps : XSh) (ks : XSh) (si : XSi) (kb : Int32) (sx : Int64) (pa : Int32)  : Met l yX0_give wsX0_give rm_X0_give (va_Pc [.ref (ad 15), .long sx, .int pa] (sR D cI cL cZ A (xW cI cL cZ ad tx td dr dy lb pn ps ks si kb))) (va_Qv (fun (u : XDy) => u = (f_X0_give dy sx pa)) (fun (u : XDy) t => va_P D vwCl (xW cI cL cZ ad tx td dr u lb pn ps ks si kb) t.heap) A) 0 0 A := by
  refine Met.ofW (cc := cX0_give) (maxL := 5) (ret := none) (by decide) rfl ?_
  intro p e s m args below meth c s₁ B hml hv
  obtain ⟨rfl, hP, hK, hD, hE⟩ := hv
  have hx := B.exec
  have hb := B.bytes
  have hr := B.returns
  have hts := atoms_spec (ws := wsX0_give) B.pre
  have hown : s.vm.findClass RX0 = some m.cls := findClass_of_methodNamed B.named
  have hlocks := B.notSynchronized
  have hS : va_S A s.heap s.heap [] := va_S.rf
  have hl := lv_entry ([.ref (ad 15), .long sx, .int pa]) (n := 5) (Nat.le_of_ble_eq_true rfl)
  rw [lg_entry_eq]
  generalize (lg_sl ([.ref (ad 15), .long sx, .int pa]) ++ List.replicate (5 - (lg_sl ([.ref (ad 15), .long sx, .int pa])).length) Slot.unset).toArray = ls at hl ⊢
  have hl : lv_has ls 5 [(0, .ref (ad 15)), (1, .long sx), (3, .int pa)] := hl
  obtain ⟨Q, hQe⟩ : ∃ Q, Q = MQ below (va_Qv (fun (u : XDy) => u = (f_X0_give dy sx pa)) (fun (u : XDy) t => va_P D vwCl (xW cI cL cZ ad tx td dr u lb pn ps ks si kb) t.heap) A) ([.ref (ad 15), .long sx, .int pa] : List Value).toArray s 0 0 A := ⟨_, rfl⟩
  show W p l e (headSpec wsX0_give rm_X0_give).room s m ([.ref (ad 15), .long sx, .int pa] : List Value).toArray below meth c s.heap [] 0 0 (MQ below (va_Qv (fun (u : XDy) => u = (f_X0_give dy sx pa)) (fun (u : XDy) t => va_P D vwCl (xW cI cL cZ ad tx td dr u lb pn ps ks si kb) t.heap) A) ([.ref (ad 15), .long sx, .int pa] : List Value).toArray s 0 0 A) (F0 m 0 ls [])
  rw [← hQe]
  refine lv_iconst (v := nI 0) hx hb dX0_give_0 rfl ?_
  refine lv_istore (lv' := [(4, .int (nI 0)), (0, .ref (ad 15)), (1, .long sx), (3, .int pa)]) hx hb dX0_give_1 hl (by decide) rfl (fun ls hl => ?_)
  obtain ⟨T_3_1, hT_3_1⟩ : ∃ z, z = (L_X0_give_3 sx pa 6 0 dy.2.1) := ⟨_, rfl⟩
  have hexit_3 : ∀ (H : Heap) (locs : List Loc) (ls : Array Slot), va_P D vwCl (xW cI cL cZ ad tx td dr (dy.1, T_3_1, dy.2.2.1, dy.2.2.2) lb pn ps ks si kb) H → va_S A s.heap H locs → lv_has ls 5 [(0, .ref (ad 15)), (1, .long sx), (3, .int pa)] → W p l e (headSpec wsX0_give rm_X0_give).room s m ([.ref (ad 15), .long sx, .int pa] : List Value).toArray below meth c H locs 0 0 Q (F0 m 54 ls []) := by
    intro H locs ls hP hS hl
    have hD : va_D A (xW cI cL cZ ad tx td dr (dy.1, T_3_1, dy.2.2.1, dy.2.2.2) lb pn ps ks si kb) := xW_D hD
    subst hQe
    have hf : (f_X0_give dy sx pa) = (dy.1, T_3_1, dy.2.2.1, dy.2.2.2) := by rw [f_X0_give]; (try rw [← hT_3_1]); first | done | rfl
    exact W.vret hx hb hr (fun t ht hW => ⟨⟨(dy.1, T_3_1, dy.2.2.1, dy.2.2.2), rfl, hf.symm, va_Pt ht hP⟩, hS.F ht⟩) hS.2.2 dX0_give_54
  have loop_3 : ∀ (n_3 : Nat) (k_3 : Nat) (wdy1_3 : Nat → Int64), (k_3 + n_3 = 6) → L_X0_give_3 sx pa n_3 k_3 wdy1_3 = T_3_1 → ∀ (H : Heap) (locs : List Loc) (ls : Array Slot), va_P D vwCl (xW cI cL cZ ad tx td dr (dy.1, wdy1_3, dy.2.2.1, dy.2.2.2) lb pn ps ks si kb) H → va_S A s.heap H locs → lv_has ls 5 [(4, .int (nI k_3)), (0, .ref (ad 15)), (1, .long sx), (3, .int pa)] → W p l e (headSpec wsX0_give rm_X0_give).room s m ([.ref (ad 15), .long sx, .int pa] : List Value).toArray below meth c H locs 0 0 Q (F0 m 3 ls []) := by
    intro n_3
    induction n_3 with
    | zero =>
      intro k_3 wdy1_3 hk_3 hL_3 H locs ls hP hS hl
      have hD : va_D A (xW cI cL cZ ad tx td dr (dy.1, wdy1_3, dy.2.2.1, dy.2.2.2) lb pn ps ks si kb) := xW_D hD
      refine lv_iload hx hb dX0_give_3 (lv_at hl 0 rfl) ?_
      refine lv_bipush (v := nI 6) hx hb dX0_give_5 rfl ?_
      refine mv_icmp_ge (tgt := 54) hx hb dX0_give_7 (by decide) (by omega) (by decide) (fun c_4 => ?_) (fun c_4 => (by omega : False).elim)
      have e9 : T_3_1 = wdy1_3 := by rw [← hL_3, L_X0_give_3]
      have hq := hexit_3
      rw [e9] at hq
      exact hq _ _ ls  hP hS (lv_sub hl [1, 2, 3] rfl)
    | succ n_3 ih_3 =>
      intro k_3 wdy1_3 hk_3 hL_3 H locs ls hP hS hl
      have hD : va_D A (xW cI cL cZ ad tx td dr (dy.1, wdy1_3, dy.2.2.1, dy.2.2.2) lb pn ps ks si kb) := xW_D hD
      refine lv_iload hx hb dX0_give_3 (lv_at hl 0 rfl) ?_
      refine lv_bipush (v := nI 6) hx hb dX0_give_5 rfl ?_
      refine mv_icmp_ge (tgt := 54) hx hb dX0_give_7 (by decide) (by omega) (by decide) (fun c_1 => (by omega : False).elim) (fun c_1 => ?_)
      refine lv_aload_n hx hb dX0_give_10 rfl (lv_at hl 1 rfl) ?_
      refine va_get (D := D) (ci := 0) (v := .ref (ad 17)) (C := RX0) (T := TX0) (N := 4) hx hb hts (by decide +kernel) hown hK hP 15 rfl rfl 1 (by decide) (hts (.fieldLink RX0 15 "SummitTime$Day" "lands" "[J") (by decide +kernel)) (fun _ h9 => h9) rfl dX0_give_11 ?_
      refine lv_iload hx hb dX0_give_14 (lv_at hl 0 rfl) ?_
      refine lv_iload hx hb dX0_give_16 (lv_at hl 0 rfl) ?_
      refine lv_iload_n hx hb dX0_give_18 rfl (lv_at hl 3 rfl) ?_
      refine mv_phil (v := (if nI k_3 = pa then ((wdy1_3 k_3) ||| sx) else ((wdy1_3 k_3) &&& (sx ^^^ (-1 : Int64))))) (pcj := 47) (ls := ls) (rest' := [.int (nI k_3), .ref (ad 17)]) ?_ (fun J_2 => ?_)
      · refine mv_last (f := wdy1_3) hx hb hK hP hD hS 17 1 rfl rfl (by omega) (by decide) dX0_give_47 (fun H locs hP hD hS => ?_)
        have hP : va_P D vwCl (xW cI cL cZ ad tx td dr (dy.1, (vp_updL wdy1_3 k_3 (if nI k_3 = pa then ((wdy1_3 k_3) ||| sx) else ((wdy1_3 k_3) &&& (sx ^^^ (-1 : Int64))))), dy.2.2.1, dy.2.2.2) lb pn ps ks si kb) H := hP
        have hD : va_D A (xW cI cL cZ ad tx td dr (dy.1, (vp_updL wdy1_3 k_3 (if nI k_3 = pa then ((wdy1_3 k_3) ||| sx) else ((wdy1_3 k_3) &&& (sx ^^^ (-1 : Int64))))), dy.2.2.1, dy.2.2.2) lb pn ps ks si kb) := hD
        refine mv_iinc (y := k_3 + 1) (lv' := [(4, .int (nI (k_3 + 1))), (0, .ref (ad 15)), (1, .long sx), (3, .int pa)]) hx hb dX0_give_48 hl (k := 0) rfl (nI_p1 _) (by decide) rfl (fun ls hl => ?_)
        refine lv_goto (tgt := 3) hx hb dX0_give_51 (by decide) ?_
        exact ih_3 (k_3 + 1) (vp_updL wdy1_3 k_3 (if nI k_3 = pa then ((wdy1_3 k_3) ||| sx) else ((wdy1_3 k_3) &&& (sx ^^^ (-1 : Int64))))) (by omega) (by have e9 := hL_3; rw [L_X0_give_3] at e9; exact e9) _ _ ls hP hS (lv_sub hl [0, 1, 2, 3] rfl)
      · refine lv_icmp_ne (tgt := 34) hx hb dX0_give_19 (by decide) (fun c_3 => ?_) (fun c_3 => ?_)
        · refine lv_aload_n hx hb dX0_give_34 rfl (lv_at hl 1 rfl) ?_
          refine va_get (D := D) (ci := 0) (v := .ref (ad 17)) (C := RX0) (T := TX0) (N := 4) hx hb hts (by decide +kernel) hown hK hP 15 rfl rfl 1 (by decide) (hts (.fieldLink RX0 15 "SummitTime$Day" "lands" "[J") (by decide +kernel)) (fun _ h9 => h9) rfl dX0_give_35 ?_
          refine lv_iload hx hb dX0_give_38 (lv_at hl 0 rfl) ?_
          refine mv_lald (f := wdy1_3) hx hb hK hP 17 1 rfl rfl (by omega) (by decide) dX0_give_40 ?_
          refine lv_lload_n hx hb dX0_give_41 rfl (lv_at hl 2 rfl) ?_
          refine lv_ldc2 (v := (-1)) hx hb hown (hts (.constantLong RX0 32 (-1)) (by decide +kernel)) dX0_give_42 ?_
          refine lv_lxor hx hb dX0_give_45 ?_
          refine lv_land hx hb dX0_give_46 ?_
          exact J_2 _ (by rw [if_neg c_3])
        · refine lv_aload_n hx hb dX0_give_22 rfl (lv_at hl 1 rfl) ?_
          refine va_get (D := D) (ci := 0) (v := .ref (ad 17)) (C := RX0) (T := TX0) (N := 4) hx hb hts (by decide +kernel) hown hK hP 15 rfl rfl 1 (by decide) (hts (.fieldLink RX0 15 "SummitTime$Day" "lands" "[J") (by decide +kernel)) (fun _ h9 => h9) rfl dX0_give_23 ?_
          refine lv_iload hx hb dX0_give_26 (lv_at hl 0 rfl) ?_
          refine mv_lald (f := wdy1_3) hx hb hK hP 17 1 rfl rfl (by omega) (by decide) dX0_give_28 ?_
          refine lv_lload_n hx hb dX0_give_29 rfl (lv_at hl 2 rfl) ?_
          refine lv_lor hx hb dX0_give_30 ?_
          refine lv_goto (tgt := 47) hx hb dX0_give_31 (by decide) ?_
          exact J_2 _ (by rw [if_pos c_3])
  exact loop_3 6 0 dy.2.1 (by omega) hT_3_1.symm _ _ ls hP hS (lv_sub hl [0, 1, 2, 3] rfl)
def L_X3_put_p_21 (dy : XDy) (pl : Nat) : Nat → Nat → (Nat → Int32) → (Nat → Int64) → (Nat → Int32) × (Nat → Int64)
  | 0, _, wps0_21, wps1_21 => (wps0_21, wps1_21)
  | n_21 + 1, k_21, wps0_21, wps1_21 => (L_X3_put_p_21 dy pl n_21 (k_21 + 1) (upd wps0_21 ((pl * 6) + k_21) (dy.1 k_21)) (vp_updL wps1_21 ((pl * 6) + k_21) (dy.2.1 k_21)))
def f_X3_put_p (dy : XDy) (ps : XSh) (pl : Nat) : XSh := ((L_X3_put_p_21 dy pl 6 0 ps.1 ps.2.1).1, (L_X3_put_p_21 dy pl 6 0 ps.1 ps.2.1).2, (upd ps.2.2.1 pl dy.2.2.1), (upd ps.2.2.2 pl dy.2.2.2))
abbrev rm_X3_put_p : Room := { frames := 0, cells := 0, slots := 0, locals := 0 }
set_option maxHeartbeats 4000000 in
set_option maxRecDepth 100000 in
theorem c_X3_put_p (l : Launch) (D : va_G) (cI cL cZ : ClassId) (ad : Nat → Nat) (A : Nat → Prop) (tx : XTx) (td : XTd) (dr : XTd) (dy : XDy) (lb : (Nat → Int32)) (pn : (Nat × Nat)) (ps : XSh) (ks : XSh) (si : XSi) (kb : Int32) (pl : Nat) (hpl : pl < 8) : Met l yX3_put wsX3_put rm_X3_put_p (va_Pc [.ref (ad 21), .int (nI pl), .ref (ad 15)] (sR D cI cL cZ A (xW cI cL cZ ad tx td dr dy lb pn ps ks si kb))) (va_Qv (fun (u : XSh) => u = (f_X3_put_p dy ps pl)) (fun (u : XSh) t => va_P D vwCl (xW cI cL cZ ad tx td dr dy lb pn u ks si kb) t.heap) A) 0 0 A := by
  refine Met.ofW (cc := cX3_put) (maxL := 5) (ret := none) (by decide) rfl ?_
  intro p e s m args below meth c s₁ B hml hv
  obtain ⟨rfl, hP, hK, hD, hE⟩ := hv
  have hx := B.exec
  have hb := B.bytes
  have hr := B.returns
  have hts := atoms_spec (ws := wsX3_put) B.pre
  have hown : s.vm.findClass RX3 = some m.cls := findClass_of_methodNamed B.named
  have hlocks := B.notSynchronized
  have hS : va_S A s.heap s.heap [] := va_S.rf
  have hl := lv_entry ([.ref (ad 21), .int (nI pl), .ref (ad 15)]) (n := 5) (Nat.le_of_ble_eq_true rfl)
  rw [lg_entry_eq]
  generalize (lg_sl ([.ref (ad 21), .int (nI pl), .ref (ad 15)]) ++ List.replicate (5 - (lg_sl ([.ref (ad 21), .int (nI pl), .ref (ad 15)])).length) Slot.unset).toArray = ls at hl ⊢
  have hl : lv_has ls 5 [(0, .ref (ad 21)), (1, .int (nI pl)), (2, .ref (ad 15))] := hl
  obtain ⟨Q, hQe⟩ : ∃ Q, Q = MQ below (va_Qv (fun (u : XSh) => u = (f_X3_put_p dy ps pl)) (fun (u : XSh) t => va_P D vwCl (xW cI cL cZ ad tx td dr dy lb pn u ks si kb) t.heap) A) ([.ref (ad 21), .int (nI pl), .ref (ad 15)] : List Value).toArray s 0 0 A := ⟨_, rfl⟩
  show W p l e (headSpec wsX3_put rm_X3_put_p).room s m ([.ref (ad 21), .int (nI pl), .ref (ad 15)] : List Value).toArray below meth c s.heap [] 0 0 (MQ below (va_Qv (fun (u : XSh) => u = (f_X3_put_p dy ps pl)) (fun (u : XSh) t => va_P D vwCl (xW cI cL cZ ad tx td dr dy lb pn u ks si kb) t.heap) A) ([.ref (ad 21), .int (nI pl), .ref (ad 15)] : List Value).toArray s 0 0 A) (F0 m 0 ls [])
  rw [← hQe]
  refine lv_iload_n hx hb dX3_put_0 rfl (lv_at hl 1 rfl) ?_
  refine mv_if_lt (tgt := 12) hx hb dX3_put_1 (by decide) (by omega) ?_
  refine lv_iload_n hx hb dX3_put_4 rfl (lv_at hl 1 rfl) ?_
  refine lv_aload_n hx hb dX3_put_5 rfl (lv_at hl 0 rfl) ?_
  refine va_get (D := D) (ci := 3) (v := .int (nI 8)) (C := RX3) (T := TX3) (N := 5) hx hb hts (by decide +kernel) hown hK hP 21 rfl rfl 0 (by decide) (hts (.fieldLink RX3 15 "SummitTime$Shelf" "places" "I") (by decide +kernel)) (fun _ h9 => h9) rfl dX3_put_6 ?_
  refine mv_icmp_lt (tgt := 13) hx hb dX3_put_9 (by decide) (by omega) (by decide) (fun c_1 => ?_) (fun c_1 => (by omega : False).elim)
  refine lv_iload_n hx hb dX3_put_13 rfl (lv_at hl 1 rfl) ?_
  refine lv_bipush (v := nI 6) hx hb dX3_put_14 rfl ?_
  refine mv_imul hx hb dX3_put_16 ?_
  refine lv_istore_n (lv' := [(3, .int (nI (pl * 6))), (0, .ref (ad 21)), (1, .int (nI pl)), (2, .ref (ad 15))]) hx hb dX3_put_17 rfl hl (by decide) rfl (fun ls hl => ?_)
  refine lv_iconst (v := nI 0) hx hb dX3_put_18 rfl ?_
  refine lv_istore (lv' := [(4, .int (nI 0)), (3, .int (nI (pl * 6))), (0, .ref (ad 21)), (1, .int (nI pl)), (2, .ref (ad 15))]) hx hb dX3_put_19 hl (by decide) rfl (fun ls hl => ?_)
  obtain ⟨T_21_1, hT_21_1⟩ : ∃ z, z = (L_X3_put_p_21 dy pl 6 0 ps.1 ps.2.1) := ⟨_, rfl⟩
  have hexit_21 : ∀ (H : Heap) (locs : List Loc) (ls : Array Slot), va_P D vwCl (xW cI cL cZ ad tx td dr dy lb pn (T_21_1.1, T_21_1.2, ps.2.2.1, ps.2.2.2) ks si kb) H → va_S A s.heap H locs → lv_has ls 5 [(3, .int (nI (pl * 6))), (0, .ref (ad 21)), (1, .int (nI pl)), (2, .ref (ad 15))] → W p l e (headSpec wsX3_put rm_X3_put_p).room s m ([.ref (ad 21), .int (nI pl), .ref (ad 15)] : List Value).toArray below meth c H locs 0 0 Q (F0 m 66 ls []) := by
    intro H locs ls hP hS hl
    have hD : va_D A (xW cI cL cZ ad tx td dr dy lb pn (T_21_1.1, T_21_1.2, ps.2.2.1, ps.2.2.2) ks si kb) := xW_D hD
    refine lv_aload_n hx hb dX3_put_66 rfl (lv_at hl 1 rfl) ?_
    refine va_get (D := D) (ci := 3) (v := .ref (ad 24)) (C := RX3) (T := TX3) (N := 5) hx hb hts (by decide +kernel) hown hK hP 21 rfl rfl 3 (by decide) (hts (.fieldLink RX3 29 "SummitTime$Shelf" "ropes" "[I") (by decide +kernel)) (fun _ h9 => h9) rfl dX3_put_67 ?_
    refine lv_iload_n hx hb dX3_put_70 rfl (lv_at hl 2 rfl) ?_
    refine lv_aload_n hx hb dX3_put_71 rfl (lv_at hl 3 rfl) ?_
    refine va_getN (D := D) (ci := 0) (v := .int dy.2.2.1) (C := RX0) (T := TX0) (N := 4) hx hb hts (by decide +kernel) hown hK hP 15 rfl rfl 2 (by decide) (va_Nw.use rfl hE.2.2.2.2.2.2.1) (fun _ h9 => h9) rfl dX3_put_72 ?_
    refine mv_iast (f := ps.2.2.1) hx hb hK hP hD hS 24 0 rfl rfl (by omega) (by decide) dX3_put_75 (fun H locs hP hD hS => ?_)
    have hP : va_P D vwCl (xW cI cL cZ ad tx td dr dy lb pn (T_21_1.1, T_21_1.2, (upd ps.2.2.1 pl dy.2.2.1), ps.2.2.2) ks si kb) H := hP
    have hD : va_D A (xW cI cL cZ ad tx td dr dy lb pn (T_21_1.1, T_21_1.2, (upd ps.2.2.1 pl dy.2.2.1), ps.2.2.2) ks si kb) := hD
    refine lv_aload_n hx hb dX3_put_76 rfl (lv_at hl 1 rfl) ?_
    refine va_get (D := D) (ci := 3) (v := .ref (ad 25)) (C := RX3) (T := TX3) (N := 5) hx hb hts (by decide +kernel) hown hK hP 21 rfl rfl 4 (by decide) (hts (.fieldLink RX3 32 "SummitTime$Shelf" "clocksOn" "[I") (by decide +kernel)) (fun _ h9 => h9) rfl dX3_put_77 ?_
    refine lv_iload_n hx hb dX3_put_80 rfl (lv_at hl 2 rfl) ?_
    refine lv_aload_n hx hb dX3_put_81 rfl (lv_at hl 3 rfl) ?_
    refine va_getN (D := D) (ci := 0) (v := .int dy.2.2.2) (C := RX0) (T := TX0) (N := 4) hx hb hts (by decide +kernel) hown hK hP 15 rfl rfl 3 (by decide) (va_Nw.use rfl hE.2.2.2.2.2.2.2.1) (fun _ h9 => h9) rfl dX3_put_82 ?_
    refine mv_iast (f := ps.2.2.2) hx hb hK hP hD hS 25 0 rfl rfl (by omega) (by decide) dX3_put_85 (fun H locs hP hD hS => ?_)
    have hP : va_P D vwCl (xW cI cL cZ ad tx td dr dy lb pn (T_21_1.1, T_21_1.2, (upd ps.2.2.1 pl dy.2.2.1), (upd ps.2.2.2 pl dy.2.2.2)) ks si kb) H := hP
    have hD : va_D A (xW cI cL cZ ad tx td dr dy lb pn (T_21_1.1, T_21_1.2, (upd ps.2.2.1 pl dy.2.2.1), (upd ps.2.2.2 pl dy.2.2.2)) ks si kb) := hD
    subst hQe
    have hf : (f_X3_put_p dy ps pl) = (T_21_1.1, T_21_1.2, (upd ps.2.2.1 pl dy.2.2.1), (upd ps.2.2.2 pl dy.2.2.2)) := by rw [f_X3_put_p]; (try rw [← hT_21_1]); first | done | rfl
    exact W.vret hx hb hr (fun t ht hW => ⟨⟨(T_21_1.1, T_21_1.2, (upd ps.2.2.1 pl dy.2.2.1), (upd ps.2.2.2 pl dy.2.2.2)), rfl, hf.symm, va_Pt ht hP⟩, hS.F ht⟩) hS.2.2 dX3_put_86
  have loop_21 : ∀ (n_21 : Nat) (k_21 : Nat) (wps0_21 : Nat → Int32) (wps1_21 : Nat → Int64), (k_21 + n_21 = 6) → L_X3_put_p_21 dy pl n_21 k_21 wps0_21 wps1_21 = T_21_1 → ∀ (H : Heap) (locs : List Loc) (ls : Array Slot), va_P D vwCl (xW cI cL cZ ad tx td dr dy lb pn (wps0_21, wps1_21, ps.2.2.1, ps.2.2.2) ks si kb) H → va_S A s.heap H locs → lv_has ls 5 [(4, .int (nI k_21)), (3, .int (nI (pl * 6))), (0, .ref (ad 21)), (1, .int (nI pl)), (2, .ref (ad 15))] → W p l e (headSpec wsX3_put rm_X3_put_p).room s m ([.ref (ad 21), .int (nI pl), .ref (ad 15)] : List Value).toArray below meth c H locs 0 0 Q (F0 m 21 ls []) := by
    intro n_21
    induction n_21 with
    | zero =>
      intro k_21 wps0_21 wps1_21 hk_21 hL_21 H locs ls hP hS hl
      have hD : va_D A (xW cI cL cZ ad tx td dr dy lb pn (wps0_21, wps1_21, ps.2.2.1, ps.2.2.2) ks si kb) := xW_D hD
      refine lv_iload hx hb dX3_put_21 (lv_at hl 0 rfl) ?_
      refine lv_bipush (v := nI 6) hx hb dX3_put_23 rfl ?_
      refine mv_icmp_ge (tgt := 66) hx hb dX3_put_25 (by decide) (by omega) (by decide) (fun c_3 => ?_) (fun c_3 => (by omega : False).elim)
      have e9 : T_21_1 = (wps0_21, wps1_21) := by rw [← hL_21, L_X3_put_p_21]
      have hq := hexit_21
      rw [e9] at hq
      exact hq _ _ ls  hP hS (lv_sub hl [1, 2, 3, 4] rfl)
    | succ n_21 ih_21 =>
      intro k_21 wps0_21 wps1_21 hk_21 hL_21 H locs ls hP hS hl
      have hD : va_D A (xW cI cL cZ ad tx td dr dy lb pn (wps0_21, wps1_21, ps.2.2.1, ps.2.2.2) ks si kb) := xW_D hD
      refine lv_iload hx hb dX3_put_21 (lv_at hl 0 rfl) ?_
      refine lv_bipush (v := nI 6) hx hb dX3_put_23 rfl ?_
      refine mv_icmp_ge (tgt := 66) hx hb dX3_put_25 (by decide) (by omega) (by decide) (fun c_2 => (by omega : False).elim) (fun c_2 => ?_)
      refine lv_aload_n hx hb dX3_put_28 rfl (lv_at hl 2 rfl) ?_
      refine va_get (D := D) (ci := 3) (v := .ref (ad 22)) (C := RX3) (T := TX3) (N := 5) hx hb hts (by decide +kernel) hown hK hP 21 rfl rfl 1 (by decide) (hts (.fieldLink RX3 21 "SummitTime$Shelf" "starts" "[I") (by decide +kernel)) (fun _ h9 => h9) rfl dX3_put_29 ?_
      refine lv_iload_n hx hb dX3_put_32 rfl (lv_at hl 1 rfl) ?_
      refine lv_iload hx hb dX3_put_33 (lv_at hl 0 rfl) ?_
      refine mv_iadd hx hb dX3_put_35 ?_
      refine lv_aload_n hx hb dX3_put_36 rfl (lv_at hl 4 rfl) ?_
      refine va_getN (D := D) (ci := 0) (v := .ref (ad 16)) (C := RX0) (T := TX0) (N := 4) hx hb hts (by decide +kernel) hown hK hP 15 rfl rfl 0 (by decide) (va_Nw.use rfl hE.2.2.2.2.1) (fun _ h9 => h9) rfl dX3_put_37 ?_
      refine lv_iload hx hb dX3_put_40 (lv_at hl 0 rfl) ?_
      refine mv_iald (f := dy.1) hx hb hK hP 16 0 rfl rfl (by omega) (by decide) dX3_put_42 ?_
      refine mv_iast (f := wps0_21) hx hb hK hP hD hS 22 0 rfl rfl (by omega) (by decide) dX3_put_43 (fun H locs hP hD hS => ?_)
      have hP : va_P D vwCl (xW cI cL cZ ad tx td dr dy lb pn ((upd wps0_21 ((pl * 6) + k_21) (dy.1 k_21)), wps1_21, ps.2.2.1, ps.2.2.2) ks si kb) H := hP
      have hD : va_D A (xW cI cL cZ ad tx td dr dy lb pn ((upd wps0_21 ((pl * 6) + k_21) (dy.1 k_21)), wps1_21, ps.2.2.1, ps.2.2.2) ks si kb) := hD
      refine lv_aload_n hx hb dX3_put_44 rfl (lv_at hl 2 rfl) ?_
      refine va_get (D := D) (ci := 3) (v := .ref (ad 23)) (C := RX3) (T := TX3) (N := 5) hx hb hts (by decide +kernel) hown hK hP 21 rfl rfl 2 (by decide) (hts (.fieldLink RX3 25 "SummitTime$Shelf" "lands" "[J") (by decide +kernel)) (fun _ h9 => h9) rfl dX3_put_45 ?_
      refine lv_iload_n hx hb dX3_put_48 rfl (lv_at hl 1 rfl) ?_
      refine lv_iload hx hb dX3_put_49 (lv_at hl 0 rfl) ?_
      refine mv_iadd hx hb dX3_put_51 ?_
      refine lv_aload_n hx hb dX3_put_52 rfl (lv_at hl 4 rfl) ?_
      refine va_getN (D := D) (ci := 0) (v := .ref (ad 17)) (C := RX0) (T := TX0) (N := 4) hx hb hts (by decide +kernel) hown hK hP 15 rfl rfl 1 (by decide) (va_Nw.use rfl hE.2.2.2.2.2.1) (fun _ h9 => h9) rfl dX3_put_53 ?_
      refine lv_iload hx hb dX3_put_56 (lv_at hl 0 rfl) ?_
      refine mv_lald (f := dy.2.1) hx hb hK hP 17 1 rfl rfl (by omega) (by decide) dX3_put_58 ?_
      refine mv_last (f := wps1_21) hx hb hK hP hD hS 23 1 rfl rfl (by omega) (by decide) dX3_put_59 (fun H locs hP hD hS => ?_)
      have hP : va_P D vwCl (xW cI cL cZ ad tx td dr dy lb pn ((upd wps0_21 ((pl * 6) + k_21) (dy.1 k_21)), (vp_updL wps1_21 ((pl * 6) + k_21) (dy.2.1 k_21)), ps.2.2.1, ps.2.2.2) ks si kb) H := hP
      have hD : va_D A (xW cI cL cZ ad tx td dr dy lb pn ((upd wps0_21 ((pl * 6) + k_21) (dy.1 k_21)), (vp_updL wps1_21 ((pl * 6) + k_21) (dy.2.1 k_21)), ps.2.2.1, ps.2.2.2) ks si kb) := hD
      refine mv_iinc (y := k_21 + 1) (lv' := [(4, .int (nI (k_21 + 1))), (3, .int (nI (pl * 6))), (0, .ref (ad 21)), (1, .int (nI pl)), (2, .ref (ad 15))]) hx hb dX3_put_60 hl (k := 0) rfl (nI_p1 _) (by decide) rfl (fun ls hl => ?_)
      refine lv_goto (tgt := 21) hx hb dX3_put_63 (by decide) ?_
      exact ih_21 (k_21 + 1) (upd wps0_21 ((pl * 6) + k_21) (dy.1 k_21)) (vp_updL wps1_21 ((pl * 6) + k_21) (dy.2.1 k_21)) (by omega) (by have e9 := hL_21; rw [L_X3_put_p_21] at e9; exact e9) _ _ ls hP hS (lv_sub hl [0, 1, 2, 3, 4] rfl)
  exact loop_21 6 0 ps.1 ps.2.1 (by omega) hT_21_1.symm _ _ ls hP hS (lv_sub hl [0, 1, 2, 3, 4] rfl)
def L_X3_fetch_p_21 (ps : XSh) (pl : Nat) : Nat → Nat → (Nat → Int32) → (Nat → Int64) → (Nat → Int32) × (Nat → Int64)
  | 0, _, wdy0_21, wdy1_21 => (wdy0_21, wdy1_21)
  | n_21 + 1, k_21, wdy0_21, wdy1_21 => (L_X3_fetch_p_21 ps pl n_21 (k_21 + 1) (upd wdy0_21 k_21 (ps.1 ((pl * 6) + k_21))) (vp_updL wdy1_21 k_21 (ps.2.1 ((pl * 6) + k_21))))
def f_X3_fetch_p (dy : XDy) (ps : XSh) (pl : Nat) : XDy := ((L_X3_fetch_p_21 ps pl 6 0 dy.1 dy.2.1).1, (L_X3_fetch_p_21 ps pl 6 0 dy.1 dy.2.1).2, (ps.2.2.1 pl), (ps.2.2.2 pl))
abbrev rm_X3_fetch_p : Room := { frames := 0, cells := 0, slots := 0, locals := 0 }
set_option maxHeartbeats 4000000 in
set_option maxRecDepth 100000 in
theorem c_X3_fetch_p (l : Launch) (D : va_G) (cI cL cZ : ClassId) (ad : Nat → Nat) (A : Nat → Prop) (tx : XTx) (td : XTd) (dr : XTd) (dy : XDy) (lb : (Nat → Int32)) (pn : (Nat × Nat)) (ps : XSh) (ks : XSh) (si : XSi) (kb : Int32) (pl : Nat) (hpl : pl < 8) : Met l yX3_fetch wsX3_fetch rm_X3_fetch_p (va_Pc [.ref (ad 21), .int (nI pl), .ref (ad 15)] (sR D cI cL cZ A (xW cI cL cZ ad tx td dr dy lb pn ps ks si kb))) (va_Qv (fun (u : XDy) => u = (f_X3_fetch_p dy ps pl)) (fun (u : XDy) t => va_P D vwCl (xW cI cL cZ ad tx td dr u lb pn ps ks si kb) t.heap) A) 0 0 A := by
  refine Met.ofW (cc := cX3_fetch) (maxL := 5) (ret := none) (by decide) rfl ?_
  intro p e s m args below meth c s₁ B hml hv
  obtain ⟨rfl, hP, hK, hD, hE⟩ := hv
  have hx := B.exec
  have hb := B.bytes
  have hr := B.returns
  have hts := atoms_spec (ws := wsX3_fetch) B.pre
  have hown : s.vm.findClass RX3 = some m.cls := findClass_of_methodNamed B.named
  have hlocks := B.notSynchronized
  have hS : va_S A s.heap s.heap [] := va_S.rf
  have hl := lv_entry ([.ref (ad 21), .int (nI pl), .ref (ad 15)]) (n := 5) (Nat.le_of_ble_eq_true rfl)
  rw [lg_entry_eq]
  generalize (lg_sl ([.ref (ad 21), .int (nI pl), .ref (ad 15)]) ++ List.replicate (5 - (lg_sl ([.ref (ad 21), .int (nI pl), .ref (ad 15)])).length) Slot.unset).toArray = ls at hl ⊢
  have hl : lv_has ls 5 [(0, .ref (ad 21)), (1, .int (nI pl)), (2, .ref (ad 15))] := hl
  obtain ⟨Q, hQe⟩ : ∃ Q, Q = MQ below (va_Qv (fun (u : XDy) => u = (f_X3_fetch_p dy ps pl)) (fun (u : XDy) t => va_P D vwCl (xW cI cL cZ ad tx td dr u lb pn ps ks si kb) t.heap) A) ([.ref (ad 21), .int (nI pl), .ref (ad 15)] : List Value).toArray s 0 0 A := ⟨_, rfl⟩
  show W p l e (headSpec wsX3_fetch rm_X3_fetch_p).room s m ([.ref (ad 21), .int (nI pl), .ref (ad 15)] : List Value).toArray below meth c s.heap [] 0 0 (MQ below (va_Qv (fun (u : XDy) => u = (f_X3_fetch_p dy ps pl)) (fun (u : XDy) t => va_P D vwCl (xW cI cL cZ ad tx td dr u lb pn ps ks si kb) t.heap) A) ([.ref (ad 21), .int (nI pl), .ref (ad 15)] : List Value).toArray s 0 0 A) (F0 m 0 ls [])
  rw [← hQe]
  refine lv_iload_n hx hb dX3_fetch_0 rfl (lv_at hl 1 rfl) ?_
  refine mv_if_lt (tgt := 12) hx hb dX3_fetch_1 (by decide) (by omega) ?_
  refine lv_iload_n hx hb dX3_fetch_4 rfl (lv_at hl 1 rfl) ?_
  refine lv_aload_n hx hb dX3_fetch_5 rfl (lv_at hl 0 rfl) ?_
  refine va_get (D := D) (ci := 3) (v := .int (nI 8)) (C := RX3) (T := TX3) (N := 5) hx hb hts (by decide +kernel) hown hK hP 21 rfl rfl 0 (by decide) (hts (.fieldLink RX3 15 "SummitTime$Shelf" "places" "I") (by decide +kernel)) (fun _ h9 => h9) rfl dX3_fetch_6 ?_
  refine mv_icmp_lt (tgt := 13) hx hb dX3_fetch_9 (by decide) (by omega) (by decide) (fun c_1 => ?_) (fun c_1 => (by omega : False).elim)
  refine lv_iload_n hx hb dX3_fetch_13 rfl (lv_at hl 1 rfl) ?_
  refine lv_bipush (v := nI 6) hx hb dX3_fetch_14 rfl ?_
  refine mv_imul hx hb dX3_fetch_16 ?_
  refine lv_istore_n (lv' := [(3, .int (nI (pl * 6))), (0, .ref (ad 21)), (1, .int (nI pl)), (2, .ref (ad 15))]) hx hb dX3_fetch_17 rfl hl (by decide) rfl (fun ls hl => ?_)
  refine lv_iconst (v := nI 0) hx hb dX3_fetch_18 rfl ?_
  refine lv_istore (lv' := [(4, .int (nI 0)), (3, .int (nI (pl * 6))), (0, .ref (ad 21)), (1, .int (nI pl)), (2, .ref (ad 15))]) hx hb dX3_fetch_19 hl (by decide) rfl (fun ls hl => ?_)
  obtain ⟨T_21_1, hT_21_1⟩ : ∃ z, z = (L_X3_fetch_p_21 ps pl 6 0 dy.1 dy.2.1) := ⟨_, rfl⟩
  have hexit_21 : ∀ (H : Heap) (locs : List Loc) (ls : Array Slot), va_P D vwCl (xW cI cL cZ ad tx td dr (T_21_1.1, T_21_1.2, dy.2.2.1, dy.2.2.2) lb pn ps ks si kb) H → va_S A s.heap H locs → lv_has ls 5 [(3, .int (nI (pl * 6))), (0, .ref (ad 21)), (1, .int (nI pl)), (2, .ref (ad 15))] → W p l e (headSpec wsX3_fetch rm_X3_fetch_p).room s m ([.ref (ad 21), .int (nI pl), .ref (ad 15)] : List Value).toArray below meth c H locs 0 0 Q (F0 m 66 ls []) := by
    intro H locs ls hP hS hl
    have hD : va_D A (xW cI cL cZ ad tx td dr (T_21_1.1, T_21_1.2, dy.2.2.1, dy.2.2.2) lb pn ps ks si kb) := xW_D hD
    refine lv_aload_n hx hb dX3_fetch_66 rfl (lv_at hl 3 rfl) ?_
    refine lv_aload_n hx hb dX3_fetch_67 rfl (lv_at hl 1 rfl) ?_
    refine va_get (D := D) (ci := 3) (v := .ref (ad 24)) (C := RX3) (T := TX3) (N := 5) hx hb hts (by decide +kernel) hown hK hP 21 rfl rfl 3 (by decide) (hts (.fieldLink RX3 29 "SummitTime$Shelf" "ropes" "[I") (by decide +kernel)) (fun _ h9 => h9) rfl dX3_fetch_68 ?_
    refine lv_iload_n hx hb dX3_fetch_71 rfl (lv_at hl 2 rfl) ?_
    refine mv_iald (f := ps.2.2.1) hx hb hK hP 24 0 rfl rfl (by omega) (by decide) dX3_fetch_72 ?_
    refine va_putN (D := D) (ci := 0) (v := .int (ps.2.2.1 pl)) (ty := .int) (C := RX0) (T := TX0) (N := 4) hx hb hts (by decide +kernel) tyX0 tyX0_ok nmX0 hown hK hP hD hS 15 rfl rfl 2 (by decide) (va_Nw.use rfl hE.2.2.2.2.2.2.1) (fun _ h9 => h9) rfl (by decide +kernel) rfl rfl (Nat.le_of_ble_eq_true rfl) dX3_fetch_73 (fun H locs hP hD hS => ?_)
    have hP : va_P D vwCl (xW cI cL cZ ad tx td dr (T_21_1.1, T_21_1.2, (ps.2.2.1 pl), dy.2.2.2) lb pn ps ks si kb) H := hP
    have hD : va_D A (xW cI cL cZ ad tx td dr (T_21_1.1, T_21_1.2, (ps.2.2.1 pl), dy.2.2.2) lb pn ps ks si kb) := hD
    refine lv_aload_n hx hb dX3_fetch_76 rfl (lv_at hl 3 rfl) ?_
    refine lv_aload_n hx hb dX3_fetch_77 rfl (lv_at hl 1 rfl) ?_
    refine va_get (D := D) (ci := 3) (v := .ref (ad 25)) (C := RX3) (T := TX3) (N := 5) hx hb hts (by decide +kernel) hown hK hP 21 rfl rfl 4 (by decide) (hts (.fieldLink RX3 32 "SummitTime$Shelf" "clocksOn" "[I") (by decide +kernel)) (fun _ h9 => h9) rfl dX3_fetch_78 ?_
    refine lv_iload_n hx hb dX3_fetch_81 rfl (lv_at hl 2 rfl) ?_
    refine mv_iald (f := ps.2.2.2) hx hb hK hP 25 0 rfl rfl (by omega) (by decide) dX3_fetch_82 ?_
    refine va_putN (D := D) (ci := 0) (v := .int (ps.2.2.2 pl)) (ty := .int) (C := RX0) (T := TX0) (N := 4) hx hb hts (by decide +kernel) tyX0 tyX0_ok nmX0 hown hK hP hD hS 15 rfl rfl 3 (by decide) (va_Nw.use rfl hE.2.2.2.2.2.2.2.1) (fun _ h9 => h9) rfl (by decide +kernel) rfl rfl (Nat.le_of_ble_eq_true rfl) dX3_fetch_83 (fun H locs hP hD hS => ?_)
    have hP : va_P D vwCl (xW cI cL cZ ad tx td dr (T_21_1.1, T_21_1.2, (ps.2.2.1 pl), (ps.2.2.2 pl)) lb pn ps ks si kb) H := hP
    have hD : va_D A (xW cI cL cZ ad tx td dr (T_21_1.1, T_21_1.2, (ps.2.2.1 pl), (ps.2.2.2 pl)) lb pn ps ks si kb) := hD
    subst hQe
    have hf : (f_X3_fetch_p dy ps pl) = (T_21_1.1, T_21_1.2, (ps.2.2.1 pl), (ps.2.2.2 pl)) := by rw [f_X3_fetch_p]; (try rw [← hT_21_1]); first | done | rfl
    exact W.vret hx hb hr (fun t ht hW => ⟨⟨(T_21_1.1, T_21_1.2, (ps.2.2.1 pl), (ps.2.2.2 pl)), rfl, hf.symm, va_Pt ht hP⟩, hS.F ht⟩) hS.2.2 dX3_fetch_86
  have loop_21 : ∀ (n_21 : Nat) (k_21 : Nat) (wdy0_21 : Nat → Int32) (wdy1_21 : Nat → Int64), (k_21 + n_21 = 6) → L_X3_fetch_p_21 ps pl n_21 k_21 wdy0_21 wdy1_21 = T_21_1 → ∀ (H : Heap) (locs : List Loc) (ls : Array Slot), va_P D vwCl (xW cI cL cZ ad tx td dr (wdy0_21, wdy1_21, dy.2.2.1, dy.2.2.2) lb pn ps ks si kb) H → va_S A s.heap H locs → lv_has ls 5 [(4, .int (nI k_21)), (3, .int (nI (pl * 6))), (0, .ref (ad 21)), (1, .int (nI pl)), (2, .ref (ad 15))] → W p l e (headSpec wsX3_fetch rm_X3_fetch_p).room s m ([.ref (ad 21), .int (nI pl), .ref (ad 15)] : List Value).toArray below meth c H locs 0 0 Q (F0 m 21 ls []) := by
    intro n_21
    induction n_21 with
    | zero =>
      intro k_21 wdy0_21 wdy1_21 hk_21 hL_21 H locs ls hP hS hl
      have hD : va_D A (xW cI cL cZ ad tx td dr (wdy0_21, wdy1_21, dy.2.2.1, dy.2.2.2) lb pn ps ks si kb) := xW_D hD
      refine lv_iload hx hb dX3_fetch_21 (lv_at hl 0 rfl) ?_
      refine lv_bipush (v := nI 6) hx hb dX3_fetch_23 rfl ?_
      refine mv_icmp_ge (tgt := 66) hx hb dX3_fetch_25 (by decide) (by omega) (by decide) (fun c_3 => ?_) (fun c_3 => (by omega : False).elim)
      have e9 : T_21_1 = (wdy0_21, wdy1_21) := by rw [← hL_21, L_X3_fetch_p_21]
      have hq := hexit_21
      rw [e9] at hq
      exact hq _ _ ls  hP hS (lv_sub hl [1, 2, 3, 4] rfl)
    | succ n_21 ih_21 =>
      intro k_21 wdy0_21 wdy1_21 hk_21 hL_21 H locs ls hP hS hl
      have hD : va_D A (xW cI cL cZ ad tx td dr (wdy0_21, wdy1_21, dy.2.2.1, dy.2.2.2) lb pn ps ks si kb) := xW_D hD
      refine lv_iload hx hb dX3_fetch_21 (lv_at hl 0 rfl) ?_
      refine lv_bipush (v := nI 6) hx hb dX3_fetch_23 rfl ?_
      refine mv_icmp_ge (tgt := 66) hx hb dX3_fetch_25 (by decide) (by omega) (by decide) (fun c_2 => (by omega : False).elim) (fun c_2 => ?_)
      refine lv_aload_n hx hb dX3_fetch_28 rfl (lv_at hl 4 rfl) ?_
      refine va_getN (D := D) (ci := 0) (v := .ref (ad 16)) (C := RX0) (T := TX0) (N := 4) hx hb hts (by decide +kernel) hown hK hP 15 rfl rfl 0 (by decide) (va_Nw.use rfl hE.2.2.2.2.1) (fun _ h9 => h9) rfl dX3_fetch_29 ?_
      refine lv_iload hx hb dX3_fetch_32 (lv_at hl 0 rfl) ?_
      refine lv_aload_n hx hb dX3_fetch_34 rfl (lv_at hl 2 rfl) ?_
      refine va_get (D := D) (ci := 3) (v := .ref (ad 22)) (C := RX3) (T := TX3) (N := 5) hx hb hts (by decide +kernel) hown hK hP 21 rfl rfl 1 (by decide) (hts (.fieldLink RX3 21 "SummitTime$Shelf" "starts" "[I") (by decide +kernel)) (fun _ h9 => h9) rfl dX3_fetch_35 ?_
      refine lv_iload_n hx hb dX3_fetch_38 rfl (lv_at hl 1 rfl) ?_
      refine lv_iload hx hb dX3_fetch_39 (lv_at hl 0 rfl) ?_
      refine mv_iadd hx hb dX3_fetch_41 ?_
      refine mv_iald (f := ps.1) hx hb hK hP 22 0 rfl rfl (by omega) (by decide) dX3_fetch_42 ?_
      refine mv_iast (f := wdy0_21) hx hb hK hP hD hS 16 0 rfl rfl (by omega) (by decide) dX3_fetch_43 (fun H locs hP hD hS => ?_)
      have hP : va_P D vwCl (xW cI cL cZ ad tx td dr ((upd wdy0_21 k_21 (ps.1 ((pl * 6) + k_21))), wdy1_21, dy.2.2.1, dy.2.2.2) lb pn ps ks si kb) H := hP
      have hD : va_D A (xW cI cL cZ ad tx td dr ((upd wdy0_21 k_21 (ps.1 ((pl * 6) + k_21))), wdy1_21, dy.2.2.1, dy.2.2.2) lb pn ps ks si kb) := hD
      refine lv_aload_n hx hb dX3_fetch_44 rfl (lv_at hl 4 rfl) ?_
      refine va_getN (D := D) (ci := 0) (v := .ref (ad 17)) (C := RX0) (T := TX0) (N := 4) hx hb hts (by decide +kernel) hown hK hP 15 rfl rfl 1 (by decide) (va_Nw.use rfl hE.2.2.2.2.2.1) (fun _ h9 => h9) rfl dX3_fetch_45 ?_
      refine lv_iload hx hb dX3_fetch_48 (lv_at hl 0 rfl) ?_
      refine lv_aload_n hx hb dX3_fetch_50 rfl (lv_at hl 2 rfl) ?_
      refine va_get (D := D) (ci := 3) (v := .ref (ad 23)) (C := RX3) (T := TX3) (N := 5) hx hb hts (by decide +kernel) hown hK hP 21 rfl rfl 2 (by decide) (hts (.fieldLink RX3 25 "SummitTime$Shelf" "lands" "[J") (by decide +kernel)) (fun _ h9 => h9) rfl dX3_fetch_51 ?_
      refine lv_iload_n hx hb dX3_fetch_54 rfl (lv_at hl 1 rfl) ?_
      refine lv_iload hx hb dX3_fetch_55 (lv_at hl 0 rfl) ?_
      refine mv_iadd hx hb dX3_fetch_57 ?_
      refine mv_lald (f := ps.2.1) hx hb hK hP 23 1 rfl rfl (by omega) (by decide) dX3_fetch_58 ?_
      refine mv_last (f := wdy1_21) hx hb hK hP hD hS 17 1 rfl rfl (by omega) (by decide) dX3_fetch_59 (fun H locs hP hD hS => ?_)
      have hP : va_P D vwCl (xW cI cL cZ ad tx td dr ((upd wdy0_21 k_21 (ps.1 ((pl * 6) + k_21))), (vp_updL wdy1_21 k_21 (ps.2.1 ((pl * 6) + k_21))), dy.2.2.1, dy.2.2.2) lb pn ps ks si kb) H := hP
      have hD : va_D A (xW cI cL cZ ad tx td dr ((upd wdy0_21 k_21 (ps.1 ((pl * 6) + k_21))), (vp_updL wdy1_21 k_21 (ps.2.1 ((pl * 6) + k_21))), dy.2.2.1, dy.2.2.2) lb pn ps ks si kb) := hD
      refine mv_iinc (y := k_21 + 1) (lv' := [(4, .int (nI (k_21 + 1))), (3, .int (nI (pl * 6))), (0, .ref (ad 21)), (1, .int (nI pl)), (2, .ref (ad 15))]) hx hb dX3_fetch_60 hl (k := 0) rfl (nI_p1 _) (by decide) rfl (fun ls hl => ?_)
      refine lv_goto (tgt := 21) hx hb dX3_fetch_63 (by decide) ?_
      exact ih_21 (k_21 + 1) (upd wdy0_21 k_21 (ps.1 ((pl * 6) + k_21))) (vp_updL wdy1_21 k_21 (ps.2.1 ((pl * 6) + k_21))) (by omega) (by have e9 := hL_21; rw [L_X3_fetch_p_21] at e9; exact e9) _ _ ls hP hS (lv_sub hl [0, 1, 2, 3, 4] rfl)
  exact loop_21 6 0 dy.1 dy.2.1 (by omega) hT_21_1.symm _ _ ls hP hS (lv_sub hl [0, 1, 2, 3, 4] rfl)
def L_X3_put_k_21 (dy : XDy) (pl : Nat) : Nat → Nat → (Nat → Int32) → (Nat → Int64) → (Nat → Int32) × (Nat → Int64)
  | 0, _, wks0_21, wks1_21 => (wks0_21, wks1_21)
  | n_21 + 1, k_21, wks0_21, wks1_21 => (L_X3_put_k_21 dy pl n_21 (k_21 + 1) (upd wks0_21 ((pl * 6) + k_21) (dy.1 k_21)) (vp_updL wks1_21 ((pl * 6) + k_21) (dy.2.1 k_21)))
def f_X3_put_k (dy : XDy) (ks : XSh) (pl : Nat) : XSh := ((L_X3_put_k_21 dy pl 6 0 ks.1 ks.2.1).1, (L_X3_put_k_21 dy pl 6 0 ks.1 ks.2.1).2, (upd ks.2.2.1 pl dy.2.2.1), (upd ks.2.2.2 pl dy.2.2.2))
abbrev rm_X3_put_k : Room := { frames := 0, cells := 0, slots := 0, locals := 0 }
set_option maxHeartbeats 4000000 in
set_option maxRecDepth 100000 in
theorem c_X3_put_k (l : Launch) (D : va_G) (cI cL cZ : ClassId) (ad : Nat → Nat) (A : Nat → Prop) (tx : XTx) (td : XTd) (dr : XTd) (dy : XDy) (lb : (Nat → Int32)) (pn : (Nat × Nat)) (ps : XSh) (ks : XSh) (si : XSi) (kb : Int32) (pl : Nat) (hpl : pl < 2) : Met l yX3_put wsX3_put rm_X3_put_k (va_Pc [.ref (ad 26), .int (nI pl), .ref (ad 15)] (sR D cI cL cZ A (xW cI cL cZ ad tx td dr dy lb pn ps ks si kb))) (va_Qv (fun (u : XSh) => u = (f_X3_put_k dy ks pl)) (fun (u : XSh) t => va_P D vwCl (xW cI cL cZ ad tx td dr dy lb pn ps u si kb) t.heap) A) 0 0 A := by
  refine Met.ofW (cc := cX3_put) (maxL := 5) (ret := none) (by decide) rfl ?_
  intro p e s m args below meth c s₁ B hml hv
  obtain ⟨rfl, hP, hK, hD, hE⟩ := hv
  have hx := B.exec
  have hb := B.bytes
  have hr := B.returns
  have hts := atoms_spec (ws := wsX3_put) B.pre
  have hown : s.vm.findClass RX3 = some m.cls := findClass_of_methodNamed B.named
  have hlocks := B.notSynchronized
  have hS : va_S A s.heap s.heap [] := va_S.rf
  have hl := lv_entry ([.ref (ad 26), .int (nI pl), .ref (ad 15)]) (n := 5) (Nat.le_of_ble_eq_true rfl)
  rw [lg_entry_eq]
  generalize (lg_sl ([.ref (ad 26), .int (nI pl), .ref (ad 15)]) ++ List.replicate (5 - (lg_sl ([.ref (ad 26), .int (nI pl), .ref (ad 15)])).length) Slot.unset).toArray = ls at hl ⊢
  have hl : lv_has ls 5 [(0, .ref (ad 26)), (1, .int (nI pl)), (2, .ref (ad 15))] := hl
  obtain ⟨Q, hQe⟩ : ∃ Q, Q = MQ below (va_Qv (fun (u : XSh) => u = (f_X3_put_k dy ks pl)) (fun (u : XSh) t => va_P D vwCl (xW cI cL cZ ad tx td dr dy lb pn ps u si kb) t.heap) A) ([.ref (ad 26), .int (nI pl), .ref (ad 15)] : List Value).toArray s 0 0 A := ⟨_, rfl⟩
  show W p l e (headSpec wsX3_put rm_X3_put_k).room s m ([.ref (ad 26), .int (nI pl), .ref (ad 15)] : List Value).toArray below meth c s.heap [] 0 0 (MQ below (va_Qv (fun (u : XSh) => u = (f_X3_put_k dy ks pl)) (fun (u : XSh) t => va_P D vwCl (xW cI cL cZ ad tx td dr dy lb pn ps u si kb) t.heap) A) ([.ref (ad 26), .int (nI pl), .ref (ad 15)] : List Value).toArray s 0 0 A) (F0 m 0 ls [])
  rw [← hQe]
  refine lv_iload_n hx hb dX3_put_0 rfl (lv_at hl 1 rfl) ?_
  refine mv_if_lt (tgt := 12) hx hb dX3_put_1 (by decide) (by omega) ?_
  refine lv_iload_n hx hb dX3_put_4 rfl (lv_at hl 1 rfl) ?_
  refine lv_aload_n hx hb dX3_put_5 rfl (lv_at hl 0 rfl) ?_
  refine va_get (D := D) (ci := 3) (v := .int (nI 2)) (C := RX3) (T := TX3) (N := 5) hx hb hts (by decide +kernel) hown hK hP 26 rfl rfl 0 (by decide) (hts (.fieldLink RX3 15 "SummitTime$Shelf" "places" "I") (by decide +kernel)) (fun _ h9 => h9) rfl dX3_put_6 ?_
  refine mv_icmp_lt (tgt := 13) hx hb dX3_put_9 (by decide) (by omega) (by decide) (fun c_1 => ?_) (fun c_1 => (by omega : False).elim)
  refine lv_iload_n hx hb dX3_put_13 rfl (lv_at hl 1 rfl) ?_
  refine lv_bipush (v := nI 6) hx hb dX3_put_14 rfl ?_
  refine mv_imul hx hb dX3_put_16 ?_
  refine lv_istore_n (lv' := [(3, .int (nI (pl * 6))), (0, .ref (ad 26)), (1, .int (nI pl)), (2, .ref (ad 15))]) hx hb dX3_put_17 rfl hl (by decide) rfl (fun ls hl => ?_)
  refine lv_iconst (v := nI 0) hx hb dX3_put_18 rfl ?_
  refine lv_istore (lv' := [(4, .int (nI 0)), (3, .int (nI (pl * 6))), (0, .ref (ad 26)), (1, .int (nI pl)), (2, .ref (ad 15))]) hx hb dX3_put_19 hl (by decide) rfl (fun ls hl => ?_)
  obtain ⟨T_21_1, hT_21_1⟩ : ∃ z, z = (L_X3_put_k_21 dy pl 6 0 ks.1 ks.2.1) := ⟨_, rfl⟩
  have hexit_21 : ∀ (H : Heap) (locs : List Loc) (ls : Array Slot), va_P D vwCl (xW cI cL cZ ad tx td dr dy lb pn ps (T_21_1.1, T_21_1.2, ks.2.2.1, ks.2.2.2) si kb) H → va_S A s.heap H locs → lv_has ls 5 [(3, .int (nI (pl * 6))), (0, .ref (ad 26)), (1, .int (nI pl)), (2, .ref (ad 15))] → W p l e (headSpec wsX3_put rm_X3_put_k).room s m ([.ref (ad 26), .int (nI pl), .ref (ad 15)] : List Value).toArray below meth c H locs 0 0 Q (F0 m 66 ls []) := by
    intro H locs ls hP hS hl
    have hD : va_D A (xW cI cL cZ ad tx td dr dy lb pn ps (T_21_1.1, T_21_1.2, ks.2.2.1, ks.2.2.2) si kb) := xW_D hD
    refine lv_aload_n hx hb dX3_put_66 rfl (lv_at hl 1 rfl) ?_
    refine va_get (D := D) (ci := 3) (v := .ref (ad 29)) (C := RX3) (T := TX3) (N := 5) hx hb hts (by decide +kernel) hown hK hP 26 rfl rfl 3 (by decide) (hts (.fieldLink RX3 29 "SummitTime$Shelf" "ropes" "[I") (by decide +kernel)) (fun _ h9 => h9) rfl dX3_put_67 ?_
    refine lv_iload_n hx hb dX3_put_70 rfl (lv_at hl 2 rfl) ?_
    refine lv_aload_n hx hb dX3_put_71 rfl (lv_at hl 3 rfl) ?_
    refine va_getN (D := D) (ci := 0) (v := .int dy.2.2.1) (C := RX0) (T := TX0) (N := 4) hx hb hts (by decide +kernel) hown hK hP 15 rfl rfl 2 (by decide) (va_Nw.use rfl hE.2.2.2.2.2.2.1) (fun _ h9 => h9) rfl dX3_put_72 ?_
    refine mv_iast (f := ks.2.2.1) hx hb hK hP hD hS 29 0 rfl rfl (by omega) (by decide) dX3_put_75 (fun H locs hP hD hS => ?_)
    have hP : va_P D vwCl (xW cI cL cZ ad tx td dr dy lb pn ps (T_21_1.1, T_21_1.2, (upd ks.2.2.1 pl dy.2.2.1), ks.2.2.2) si kb) H := hP
    have hD : va_D A (xW cI cL cZ ad tx td dr dy lb pn ps (T_21_1.1, T_21_1.2, (upd ks.2.2.1 pl dy.2.2.1), ks.2.2.2) si kb) := hD
    refine lv_aload_n hx hb dX3_put_76 rfl (lv_at hl 1 rfl) ?_
    refine va_get (D := D) (ci := 3) (v := .ref (ad 30)) (C := RX3) (T := TX3) (N := 5) hx hb hts (by decide +kernel) hown hK hP 26 rfl rfl 4 (by decide) (hts (.fieldLink RX3 32 "SummitTime$Shelf" "clocksOn" "[I") (by decide +kernel)) (fun _ h9 => h9) rfl dX3_put_77 ?_
    refine lv_iload_n hx hb dX3_put_80 rfl (lv_at hl 2 rfl) ?_
    refine lv_aload_n hx hb dX3_put_81 rfl (lv_at hl 3 rfl) ?_
    refine va_getN (D := D) (ci := 0) (v := .int dy.2.2.2) (C := RX0) (T := TX0) (N := 4) hx hb hts (by decide +kernel) hown hK hP 15 rfl rfl 3 (by decide) (va_Nw.use rfl hE.2.2.2.2.2.2.2.1) (fun _ h9 => h9) rfl dX3_put_82 ?_
    refine mv_iast (f := ks.2.2.2) hx hb hK hP hD hS 30 0 rfl rfl (by omega) (by decide) dX3_put_85 (fun H locs hP hD hS => ?_)
    have hP : va_P D vwCl (xW cI cL cZ ad tx td dr dy lb pn ps (T_21_1.1, T_21_1.2, (upd ks.2.2.1 pl dy.2.2.1), (upd ks.2.2.2 pl dy.2.2.2)) si kb) H := hP
    have hD : va_D A (xW cI cL cZ ad tx td dr dy lb pn ps (T_21_1.1, T_21_1.2, (upd ks.2.2.1 pl dy.2.2.1), (upd ks.2.2.2 pl dy.2.2.2)) si kb) := hD
    subst hQe
    have hf : (f_X3_put_k dy ks pl) = (T_21_1.1, T_21_1.2, (upd ks.2.2.1 pl dy.2.2.1), (upd ks.2.2.2 pl dy.2.2.2)) := by rw [f_X3_put_k]; (try rw [← hT_21_1]); first | done | rfl
    exact W.vret hx hb hr (fun t ht hW => ⟨⟨(T_21_1.1, T_21_1.2, (upd ks.2.2.1 pl dy.2.2.1), (upd ks.2.2.2 pl dy.2.2.2)), rfl, hf.symm, va_Pt ht hP⟩, hS.F ht⟩) hS.2.2 dX3_put_86
  have loop_21 : ∀ (n_21 : Nat) (k_21 : Nat) (wks0_21 : Nat → Int32) (wks1_21 : Nat → Int64), (k_21 + n_21 = 6) → L_X3_put_k_21 dy pl n_21 k_21 wks0_21 wks1_21 = T_21_1 → ∀ (H : Heap) (locs : List Loc) (ls : Array Slot), va_P D vwCl (xW cI cL cZ ad tx td dr dy lb pn ps (wks0_21, wks1_21, ks.2.2.1, ks.2.2.2) si kb) H → va_S A s.heap H locs → lv_has ls 5 [(4, .int (nI k_21)), (3, .int (nI (pl * 6))), (0, .ref (ad 26)), (1, .int (nI pl)), (2, .ref (ad 15))] → W p l e (headSpec wsX3_put rm_X3_put_k).room s m ([.ref (ad 26), .int (nI pl), .ref (ad 15)] : List Value).toArray below meth c H locs 0 0 Q (F0 m 21 ls []) := by
    intro n_21
    induction n_21 with
    | zero =>
      intro k_21 wks0_21 wks1_21 hk_21 hL_21 H locs ls hP hS hl
      have hD : va_D A (xW cI cL cZ ad tx td dr dy lb pn ps (wks0_21, wks1_21, ks.2.2.1, ks.2.2.2) si kb) := xW_D hD
      refine lv_iload hx hb dX3_put_21 (lv_at hl 0 rfl) ?_
      refine lv_bipush (v := nI 6) hx hb dX3_put_23 rfl ?_
      refine mv_icmp_ge (tgt := 66) hx hb dX3_put_25 (by decide) (by omega) (by decide) (fun c_3 => ?_) (fun c_3 => (by omega : False).elim)
      have e9 : T_21_1 = (wks0_21, wks1_21) := by rw [← hL_21, L_X3_put_k_21]
      have hq := hexit_21
      rw [e9] at hq
      exact hq _ _ ls  hP hS (lv_sub hl [1, 2, 3, 4] rfl)
    | succ n_21 ih_21 =>
      intro k_21 wks0_21 wks1_21 hk_21 hL_21 H locs ls hP hS hl
      have hD : va_D A (xW cI cL cZ ad tx td dr dy lb pn ps (wks0_21, wks1_21, ks.2.2.1, ks.2.2.2) si kb) := xW_D hD
      refine lv_iload hx hb dX3_put_21 (lv_at hl 0 rfl) ?_
      refine lv_bipush (v := nI 6) hx hb dX3_put_23 rfl ?_
      refine mv_icmp_ge (tgt := 66) hx hb dX3_put_25 (by decide) (by omega) (by decide) (fun c_2 => (by omega : False).elim) (fun c_2 => ?_)
      refine lv_aload_n hx hb dX3_put_28 rfl (lv_at hl 2 rfl) ?_
      refine va_get (D := D) (ci := 3) (v := .ref (ad 27)) (C := RX3) (T := TX3) (N := 5) hx hb hts (by decide +kernel) hown hK hP 26 rfl rfl 1 (by decide) (hts (.fieldLink RX3 21 "SummitTime$Shelf" "starts" "[I") (by decide +kernel)) (fun _ h9 => h9) rfl dX3_put_29 ?_
      refine lv_iload_n hx hb dX3_put_32 rfl (lv_at hl 1 rfl) ?_
      refine lv_iload hx hb dX3_put_33 (lv_at hl 0 rfl) ?_
      refine mv_iadd hx hb dX3_put_35 ?_
      refine lv_aload_n hx hb dX3_put_36 rfl (lv_at hl 4 rfl) ?_
      refine va_getN (D := D) (ci := 0) (v := .ref (ad 16)) (C := RX0) (T := TX0) (N := 4) hx hb hts (by decide +kernel) hown hK hP 15 rfl rfl 0 (by decide) (va_Nw.use rfl hE.2.2.2.2.1) (fun _ h9 => h9) rfl dX3_put_37 ?_
      refine lv_iload hx hb dX3_put_40 (lv_at hl 0 rfl) ?_
      refine mv_iald (f := dy.1) hx hb hK hP 16 0 rfl rfl (by omega) (by decide) dX3_put_42 ?_
      refine mv_iast (f := wks0_21) hx hb hK hP hD hS 27 0 rfl rfl (by omega) (by decide) dX3_put_43 (fun H locs hP hD hS => ?_)
      have hP : va_P D vwCl (xW cI cL cZ ad tx td dr dy lb pn ps ((upd wks0_21 ((pl * 6) + k_21) (dy.1 k_21)), wks1_21, ks.2.2.1, ks.2.2.2) si kb) H := hP
      have hD : va_D A (xW cI cL cZ ad tx td dr dy lb pn ps ((upd wks0_21 ((pl * 6) + k_21) (dy.1 k_21)), wks1_21, ks.2.2.1, ks.2.2.2) si kb) := hD
      refine lv_aload_n hx hb dX3_put_44 rfl (lv_at hl 2 rfl) ?_
      refine va_get (D := D) (ci := 3) (v := .ref (ad 28)) (C := RX3) (T := TX3) (N := 5) hx hb hts (by decide +kernel) hown hK hP 26 rfl rfl 2 (by decide) (hts (.fieldLink RX3 25 "SummitTime$Shelf" "lands" "[J") (by decide +kernel)) (fun _ h9 => h9) rfl dX3_put_45 ?_
      refine lv_iload_n hx hb dX3_put_48 rfl (lv_at hl 1 rfl) ?_
      refine lv_iload hx hb dX3_put_49 (lv_at hl 0 rfl) ?_
      refine mv_iadd hx hb dX3_put_51 ?_
      refine lv_aload_n hx hb dX3_put_52 rfl (lv_at hl 4 rfl) ?_
      refine va_getN (D := D) (ci := 0) (v := .ref (ad 17)) (C := RX0) (T := TX0) (N := 4) hx hb hts (by decide +kernel) hown hK hP 15 rfl rfl 1 (by decide) (va_Nw.use rfl hE.2.2.2.2.2.1) (fun _ h9 => h9) rfl dX3_put_53 ?_
      refine lv_iload hx hb dX3_put_56 (lv_at hl 0 rfl) ?_
      refine mv_lald (f := dy.2.1) hx hb hK hP 17 1 rfl rfl (by omega) (by decide) dX3_put_58 ?_
      refine mv_last (f := wks1_21) hx hb hK hP hD hS 28 1 rfl rfl (by omega) (by decide) dX3_put_59 (fun H locs hP hD hS => ?_)
      have hP : va_P D vwCl (xW cI cL cZ ad tx td dr dy lb pn ps ((upd wks0_21 ((pl * 6) + k_21) (dy.1 k_21)), (vp_updL wks1_21 ((pl * 6) + k_21) (dy.2.1 k_21)), ks.2.2.1, ks.2.2.2) si kb) H := hP
      have hD : va_D A (xW cI cL cZ ad tx td dr dy lb pn ps ((upd wks0_21 ((pl * 6) + k_21) (dy.1 k_21)), (vp_updL wks1_21 ((pl * 6) + k_21) (dy.2.1 k_21)), ks.2.2.1, ks.2.2.2) si kb) := hD
      refine mv_iinc (y := k_21 + 1) (lv' := [(4, .int (nI (k_21 + 1))), (3, .int (nI (pl * 6))), (0, .ref (ad 26)), (1, .int (nI pl)), (2, .ref (ad 15))]) hx hb dX3_put_60 hl (k := 0) rfl (nI_p1 _) (by decide) rfl (fun ls hl => ?_)
      refine lv_goto (tgt := 21) hx hb dX3_put_63 (by decide) ?_
      exact ih_21 (k_21 + 1) (upd wks0_21 ((pl * 6) + k_21) (dy.1 k_21)) (vp_updL wks1_21 ((pl * 6) + k_21) (dy.2.1 k_21)) (by omega) (by have e9 := hL_21; rw [L_X3_put_k_21] at e9; exact e9) _ _ ls hP hS (lv_sub hl [0, 1, 2, 3, 4] rfl)
  exact loop_21 6 0 ks.1 ks.2.1 (by omega) hT_21_1.symm _ _ ls hP hS (lv_sub hl [0, 1, 2, 3, 4] rfl)
def L_X3_fetch_k_21 (ks : XSh) (pl : Nat) : Nat → Nat → (Nat → Int32) → (Nat → Int64) → (Nat → Int32) × (Nat → Int64)
  | 0, _, wdy0_21, wdy1_21 => (wdy0_21, wdy1_21)
  | n_21 + 1, k_21, wdy0_21, wdy1_21 => (L_X3_fetch_k_21 ks pl n_21 (k_21 + 1) (upd wdy0_21 k_21 (ks.1 ((pl * 6) + k_21))) (vp_updL wdy1_21 k_21 (ks.2.1 ((pl * 6) + k_21))))
def f_X3_fetch_k (dy : XDy) (ks : XSh) (pl : Nat) : XDy := ((L_X3_fetch_k_21 ks pl 6 0 dy.1 dy.2.1).1, (L_X3_fetch_k_21 ks pl 6 0 dy.1 dy.2.1).2, (ks.2.2.1 pl), (ks.2.2.2 pl))
abbrev rm_X3_fetch_k : Room := { frames := 0, cells := 0, slots := 0, locals := 0 }
set_option maxHeartbeats 4000000 in
set_option maxRecDepth 100000 in
theorem c_X3_fetch_k (l : Launch) (D : va_G) (cI cL cZ : ClassId) (ad : Nat → Nat) (A : Nat → Prop) (tx : XTx) (td : XTd) (dr : XTd) (dy : XDy) (lb : (Nat → Int32)) (pn : (Nat × Nat)) (ps : XSh) (ks : XSh) (si : XSi) (kb : Int32) (pl : Nat) (hpl : pl < 2) : Met l yX3_fetch wsX3_fetch rm_X3_fetch_k (va_Pc [.ref (ad 26), .int (nI pl), .ref (ad 15)] (sR D cI cL cZ A (xW cI cL cZ ad tx td dr dy lb pn ps ks si kb))) (va_Qv (fun (u : XDy) => u = (f_X3_fetch_k dy ks pl)) (fun (u : XDy) t => va_P D vwCl (xW cI cL cZ ad tx td dr u lb pn ps ks si kb) t.heap) A) 0 0 A := by
  refine Met.ofW (cc := cX3_fetch) (maxL := 5) (ret := none) (by decide) rfl ?_
  intro p e s m args below meth c s₁ B hml hv
  obtain ⟨rfl, hP, hK, hD, hE⟩ := hv
  have hx := B.exec
  have hb := B.bytes
  have hr := B.returns
  have hts := atoms_spec (ws := wsX3_fetch) B.pre
  have hown : s.vm.findClass RX3 = some m.cls := findClass_of_methodNamed B.named
  have hlocks := B.notSynchronized
  have hS : va_S A s.heap s.heap [] := va_S.rf
  have hl := lv_entry ([.ref (ad 26), .int (nI pl), .ref (ad 15)]) (n := 5) (Nat.le_of_ble_eq_true rfl)
  rw [lg_entry_eq]
  generalize (lg_sl ([.ref (ad 26), .int (nI pl), .ref (ad 15)]) ++ List.replicate (5 - (lg_sl ([.ref (ad 26), .int (nI pl), .ref (ad 15)])).length) Slot.unset).toArray = ls at hl ⊢
  have hl : lv_has ls 5 [(0, .ref (ad 26)), (1, .int (nI pl)), (2, .ref (ad 15))] := hl
  obtain ⟨Q, hQe⟩ : ∃ Q, Q = MQ below (va_Qv (fun (u : XDy) => u = (f_X3_fetch_k dy ks pl)) (fun (u : XDy) t => va_P D vwCl (xW cI cL cZ ad tx td dr u lb pn ps ks si kb) t.heap) A) ([.ref (ad 26), .int (nI pl), .ref (ad 15)] : List Value).toArray s 0 0 A := ⟨_, rfl⟩
  show W p l e (headSpec wsX3_fetch rm_X3_fetch_k).room s m ([.ref (ad 26), .int (nI pl), .ref (ad 15)] : List Value).toArray below meth c s.heap [] 0 0 (MQ below (va_Qv (fun (u : XDy) => u = (f_X3_fetch_k dy ks pl)) (fun (u : XDy) t => va_P D vwCl (xW cI cL cZ ad tx td dr u lb pn ps ks si kb) t.heap) A) ([.ref (ad 26), .int (nI pl), .ref (ad 15)] : List Value).toArray s 0 0 A) (F0 m 0 ls [])
  rw [← hQe]
  refine lv_iload_n hx hb dX3_fetch_0 rfl (lv_at hl 1 rfl) ?_
  refine mv_if_lt (tgt := 12) hx hb dX3_fetch_1 (by decide) (by omega) ?_
  refine lv_iload_n hx hb dX3_fetch_4 rfl (lv_at hl 1 rfl) ?_
  refine lv_aload_n hx hb dX3_fetch_5 rfl (lv_at hl 0 rfl) ?_
  refine va_get (D := D) (ci := 3) (v := .int (nI 2)) (C := RX3) (T := TX3) (N := 5) hx hb hts (by decide +kernel) hown hK hP 26 rfl rfl 0 (by decide) (hts (.fieldLink RX3 15 "SummitTime$Shelf" "places" "I") (by decide +kernel)) (fun _ h9 => h9) rfl dX3_fetch_6 ?_
  refine mv_icmp_lt (tgt := 13) hx hb dX3_fetch_9 (by decide) (by omega) (by decide) (fun c_1 => ?_) (fun c_1 => (by omega : False).elim)
  refine lv_iload_n hx hb dX3_fetch_13 rfl (lv_at hl 1 rfl) ?_
  refine lv_bipush (v := nI 6) hx hb dX3_fetch_14 rfl ?_
  refine mv_imul hx hb dX3_fetch_16 ?_
  refine lv_istore_n (lv' := [(3, .int (nI (pl * 6))), (0, .ref (ad 26)), (1, .int (nI pl)), (2, .ref (ad 15))]) hx hb dX3_fetch_17 rfl hl (by decide) rfl (fun ls hl => ?_)
  refine lv_iconst (v := nI 0) hx hb dX3_fetch_18 rfl ?_
  refine lv_istore (lv' := [(4, .int (nI 0)), (3, .int (nI (pl * 6))), (0, .ref (ad 26)), (1, .int (nI pl)), (2, .ref (ad 15))]) hx hb dX3_fetch_19 hl (by decide) rfl (fun ls hl => ?_)
  obtain ⟨T_21_1, hT_21_1⟩ : ∃ z, z = (L_X3_fetch_k_21 ks pl 6 0 dy.1 dy.2.1) := ⟨_, rfl⟩
  have hexit_21 : ∀ (H : Heap) (locs : List Loc) (ls : Array Slot), va_P D vwCl (xW cI cL cZ ad tx td dr (T_21_1.1, T_21_1.2, dy.2.2.1, dy.2.2.2) lb pn ps ks si kb) H → va_S A s.heap H locs → lv_has ls 5 [(3, .int (nI (pl * 6))), (0, .ref (ad 26)), (1, .int (nI pl)), (2, .ref (ad 15))] → W p l e (headSpec wsX3_fetch rm_X3_fetch_k).room s m ([.ref (ad 26), .int (nI pl), .ref (ad 15)] : List Value).toArray below meth c H locs 0 0 Q (F0 m 66 ls []) := by
    intro H locs ls hP hS hl
    have hD : va_D A (xW cI cL cZ ad tx td dr (T_21_1.1, T_21_1.2, dy.2.2.1, dy.2.2.2) lb pn ps ks si kb) := xW_D hD
    refine lv_aload_n hx hb dX3_fetch_66 rfl (lv_at hl 3 rfl) ?_
    refine lv_aload_n hx hb dX3_fetch_67 rfl (lv_at hl 1 rfl) ?_
    refine va_get (D := D) (ci := 3) (v := .ref (ad 29)) (C := RX3) (T := TX3) (N := 5) hx hb hts (by decide +kernel) hown hK hP 26 rfl rfl 3 (by decide) (hts (.fieldLink RX3 29 "SummitTime$Shelf" "ropes" "[I") (by decide +kernel)) (fun _ h9 => h9) rfl dX3_fetch_68 ?_
    refine lv_iload_n hx hb dX3_fetch_71 rfl (lv_at hl 2 rfl) ?_
    refine mv_iald (f := ks.2.2.1) hx hb hK hP 29 0 rfl rfl (by omega) (by decide) dX3_fetch_72 ?_
    refine va_putN (D := D) (ci := 0) (v := .int (ks.2.2.1 pl)) (ty := .int) (C := RX0) (T := TX0) (N := 4) hx hb hts (by decide +kernel) tyX0 tyX0_ok nmX0 hown hK hP hD hS 15 rfl rfl 2 (by decide) (va_Nw.use rfl hE.2.2.2.2.2.2.1) (fun _ h9 => h9) rfl (by decide +kernel) rfl rfl (Nat.le_of_ble_eq_true rfl) dX3_fetch_73 (fun H locs hP hD hS => ?_)
    have hP : va_P D vwCl (xW cI cL cZ ad tx td dr (T_21_1.1, T_21_1.2, (ks.2.2.1 pl), dy.2.2.2) lb pn ps ks si kb) H := hP
    have hD : va_D A (xW cI cL cZ ad tx td dr (T_21_1.1, T_21_1.2, (ks.2.2.1 pl), dy.2.2.2) lb pn ps ks si kb) := hD
    refine lv_aload_n hx hb dX3_fetch_76 rfl (lv_at hl 3 rfl) ?_
    refine lv_aload_n hx hb dX3_fetch_77 rfl (lv_at hl 1 rfl) ?_
    refine va_get (D := D) (ci := 3) (v := .ref (ad 30)) (C := RX3) (T := TX3) (N := 5) hx hb hts (by decide +kernel) hown hK hP 26 rfl rfl 4 (by decide) (hts (.fieldLink RX3 32 "SummitTime$Shelf" "clocksOn" "[I") (by decide +kernel)) (fun _ h9 => h9) rfl dX3_fetch_78 ?_
    refine lv_iload_n hx hb dX3_fetch_81 rfl (lv_at hl 2 rfl) ?_
    refine mv_iald (f := ks.2.2.2) hx hb hK hP 30 0 rfl rfl (by omega) (by decide) dX3_fetch_82 ?_
    refine va_putN (D := D) (ci := 0) (v := .int (ks.2.2.2 pl)) (ty := .int) (C := RX0) (T := TX0) (N := 4) hx hb hts (by decide +kernel) tyX0 tyX0_ok nmX0 hown hK hP hD hS 15 rfl rfl 3 (by decide) (va_Nw.use rfl hE.2.2.2.2.2.2.2.1) (fun _ h9 => h9) rfl (by decide +kernel) rfl rfl (Nat.le_of_ble_eq_true rfl) dX3_fetch_83 (fun H locs hP hD hS => ?_)
    have hP : va_P D vwCl (xW cI cL cZ ad tx td dr (T_21_1.1, T_21_1.2, (ks.2.2.1 pl), (ks.2.2.2 pl)) lb pn ps ks si kb) H := hP
    have hD : va_D A (xW cI cL cZ ad tx td dr (T_21_1.1, T_21_1.2, (ks.2.2.1 pl), (ks.2.2.2 pl)) lb pn ps ks si kb) := hD
    subst hQe
    have hf : (f_X3_fetch_k dy ks pl) = (T_21_1.1, T_21_1.2, (ks.2.2.1 pl), (ks.2.2.2 pl)) := by rw [f_X3_fetch_k]; (try rw [← hT_21_1]); first | done | rfl
    exact W.vret hx hb hr (fun t ht hW => ⟨⟨(T_21_1.1, T_21_1.2, (ks.2.2.1 pl), (ks.2.2.2 pl)), rfl, hf.symm, va_Pt ht hP⟩, hS.F ht⟩) hS.2.2 dX3_fetch_86
  have loop_21 : ∀ (n_21 : Nat) (k_21 : Nat) (wdy0_21 : Nat → Int32) (wdy1_21 : Nat → Int64), (k_21 + n_21 = 6) → L_X3_fetch_k_21 ks pl n_21 k_21 wdy0_21 wdy1_21 = T_21_1 → ∀ (H : Heap) (locs : List Loc) (ls : Array Slot), va_P D vwCl (xW cI cL cZ ad tx td dr (wdy0_21, wdy1_21, dy.2.2.1, dy.2.2.2) lb pn ps ks si kb) H → va_S A s.heap H locs → lv_has ls 5 [(4, .int (nI k_21)), (3, .int (nI (pl * 6))), (0, .ref (ad 26)), (1, .int (nI pl)), (2, .ref (ad 15))] → W p l e (headSpec wsX3_fetch rm_X3_fetch_k).room s m ([.ref (ad 26), .int (nI pl), .ref (ad 15)] : List Value).toArray below meth c H locs 0 0 Q (F0 m 21 ls []) := by
    intro n_21
    induction n_21 with
    | zero =>
      intro k_21 wdy0_21 wdy1_21 hk_21 hL_21 H locs ls hP hS hl
      have hD : va_D A (xW cI cL cZ ad tx td dr (wdy0_21, wdy1_21, dy.2.2.1, dy.2.2.2) lb pn ps ks si kb) := xW_D hD
      refine lv_iload hx hb dX3_fetch_21 (lv_at hl 0 rfl) ?_
      refine lv_bipush (v := nI 6) hx hb dX3_fetch_23 rfl ?_
      refine mv_icmp_ge (tgt := 66) hx hb dX3_fetch_25 (by decide) (by omega) (by decide) (fun c_3 => ?_) (fun c_3 => (by omega : False).elim)
      have e9 : T_21_1 = (wdy0_21, wdy1_21) := by rw [← hL_21, L_X3_fetch_k_21]
      have hq := hexit_21
      rw [e9] at hq
      exact hq _ _ ls  hP hS (lv_sub hl [1, 2, 3, 4] rfl)
    | succ n_21 ih_21 =>
      intro k_21 wdy0_21 wdy1_21 hk_21 hL_21 H locs ls hP hS hl
      have hD : va_D A (xW cI cL cZ ad tx td dr (wdy0_21, wdy1_21, dy.2.2.1, dy.2.2.2) lb pn ps ks si kb) := xW_D hD
      refine lv_iload hx hb dX3_fetch_21 (lv_at hl 0 rfl) ?_
      refine lv_bipush (v := nI 6) hx hb dX3_fetch_23 rfl ?_
      refine mv_icmp_ge (tgt := 66) hx hb dX3_fetch_25 (by decide) (by omega) (by decide) (fun c_2 => (by omega : False).elim) (fun c_2 => ?_)
      refine lv_aload_n hx hb dX3_fetch_28 rfl (lv_at hl 4 rfl) ?_
      refine va_getN (D := D) (ci := 0) (v := .ref (ad 16)) (C := RX0) (T := TX0) (N := 4) hx hb hts (by decide +kernel) hown hK hP 15 rfl rfl 0 (by decide) (va_Nw.use rfl hE.2.2.2.2.1) (fun _ h9 => h9) rfl dX3_fetch_29 ?_
      refine lv_iload hx hb dX3_fetch_32 (lv_at hl 0 rfl) ?_
      refine lv_aload_n hx hb dX3_fetch_34 rfl (lv_at hl 2 rfl) ?_
      refine va_get (D := D) (ci := 3) (v := .ref (ad 27)) (C := RX3) (T := TX3) (N := 5) hx hb hts (by decide +kernel) hown hK hP 26 rfl rfl 1 (by decide) (hts (.fieldLink RX3 21 "SummitTime$Shelf" "starts" "[I") (by decide +kernel)) (fun _ h9 => h9) rfl dX3_fetch_35 ?_
      refine lv_iload_n hx hb dX3_fetch_38 rfl (lv_at hl 1 rfl) ?_
      refine lv_iload hx hb dX3_fetch_39 (lv_at hl 0 rfl) ?_
      refine mv_iadd hx hb dX3_fetch_41 ?_
      refine mv_iald (f := ks.1) hx hb hK hP 27 0 rfl rfl (by omega) (by decide) dX3_fetch_42 ?_
      refine mv_iast (f := wdy0_21) hx hb hK hP hD hS 16 0 rfl rfl (by omega) (by decide) dX3_fetch_43 (fun H locs hP hD hS => ?_)
      have hP : va_P D vwCl (xW cI cL cZ ad tx td dr ((upd wdy0_21 k_21 (ks.1 ((pl * 6) + k_21))), wdy1_21, dy.2.2.1, dy.2.2.2) lb pn ps ks si kb) H := hP
      have hD : va_D A (xW cI cL cZ ad tx td dr ((upd wdy0_21 k_21 (ks.1 ((pl * 6) + k_21))), wdy1_21, dy.2.2.1, dy.2.2.2) lb pn ps ks si kb) := hD
      refine lv_aload_n hx hb dX3_fetch_44 rfl (lv_at hl 4 rfl) ?_
      refine va_getN (D := D) (ci := 0) (v := .ref (ad 17)) (C := RX0) (T := TX0) (N := 4) hx hb hts (by decide +kernel) hown hK hP 15 rfl rfl 1 (by decide) (va_Nw.use rfl hE.2.2.2.2.2.1) (fun _ h9 => h9) rfl dX3_fetch_45 ?_
      refine lv_iload hx hb dX3_fetch_48 (lv_at hl 0 rfl) ?_
      refine lv_aload_n hx hb dX3_fetch_50 rfl (lv_at hl 2 rfl) ?_
      refine va_get (D := D) (ci := 3) (v := .ref (ad 28)) (C := RX3) (T := TX3) (N := 5) hx hb hts (by decide +kernel) hown hK hP 26 rfl rfl 2 (by decide) (hts (.fieldLink RX3 25 "SummitTime$Shelf" "lands" "[J") (by decide +kernel)) (fun _ h9 => h9) rfl dX3_fetch_51 ?_
      refine lv_iload_n hx hb dX3_fetch_54 rfl (lv_at hl 1 rfl) ?_
      refine lv_iload hx hb dX3_fetch_55 (lv_at hl 0 rfl) ?_
      refine mv_iadd hx hb dX3_fetch_57 ?_
      refine mv_lald (f := ks.2.1) hx hb hK hP 28 1 rfl rfl (by omega) (by decide) dX3_fetch_58 ?_
      refine mv_last (f := wdy1_21) hx hb hK hP hD hS 17 1 rfl rfl (by omega) (by decide) dX3_fetch_59 (fun H locs hP hD hS => ?_)
      have hP : va_P D vwCl (xW cI cL cZ ad tx td dr ((upd wdy0_21 k_21 (ks.1 ((pl * 6) + k_21))), (vp_updL wdy1_21 k_21 (ks.2.1 ((pl * 6) + k_21))), dy.2.2.1, dy.2.2.2) lb pn ps ks si kb) H := hP
      have hD : va_D A (xW cI cL cZ ad tx td dr ((upd wdy0_21 k_21 (ks.1 ((pl * 6) + k_21))), (vp_updL wdy1_21 k_21 (ks.2.1 ((pl * 6) + k_21))), dy.2.2.1, dy.2.2.2) lb pn ps ks si kb) := hD
      refine mv_iinc (y := k_21 + 1) (lv' := [(4, .int (nI (k_21 + 1))), (3, .int (nI (pl * 6))), (0, .ref (ad 26)), (1, .int (nI pl)), (2, .ref (ad 15))]) hx hb dX3_fetch_60 hl (k := 0) rfl (nI_p1 _) (by decide) rfl (fun ls hl => ?_)
      refine lv_goto (tgt := 21) hx hb dX3_fetch_63 (by decide) ?_
      exact ih_21 (k_21 + 1) (upd wdy0_21 k_21 (ks.1 ((pl * 6) + k_21))) (vp_updL wdy1_21 k_21 (ks.2.1 ((pl * 6) + k_21))) (by omega) (by have e9 := hL_21; rw [L_X3_fetch_k_21] at e9; exact e9) _ _ ls hP hS (lv_sub hl [0, 1, 2, 3, 4] rfl)
  exact loop_21 6 0 dy.1 dy.2.1 (by omega) hT_21_1.symm _ _ ls hP hS (lv_sub hl [0, 1, 2, 3, 4] rfl)
def f_X2_record (dy : XDy) (pn : (Nat × Nat)) (ps : XSh) : (Nat × Nat) × XSh := ((((pn.1 + 1) % 8), (if 8 < pn.2 + 1 then 8 else pn.2 + 1)), (f_X3_put_p dy ps pn.1))
abbrev rm_X2_record : Room := { frames := 1, cells := 0, slots := 0, locals := 24 }
set_option maxHeartbeats 4000000 in
set_option maxRecDepth 100000 in
theorem c_X2_record (l : Launch) (D : va_G) (cI cL cZ : ClassId) (ad : Nat → Nat) (A : Nat → Prop) (tx : XTx) (td : XTd) (dr : XTd) (dy : XDy) (lb : (Nat → Int32)) (pn : (Nat × Nat)) (ps : XSh) (ks : XSh) (si : XSi) (kb : Int32)  (hn : pn.1 < 8) (hh : pn.2 ≤ 8) : Met l yX2_record wsX2_record rm_X2_record (va_Pc [.ref (ad 20), .ref (ad 15)] (sR D cI cL cZ A (xW cI cL cZ ad tx td dr dy lb pn ps ks si kb))) (va_Qv (fun (u : (Nat × Nat) × XSh) => u = (f_X2_record dy pn ps)) (fun (u : (Nat × Nat) × XSh) t => va_P D vwCl (xW cI cL cZ ad tx td dr dy lb u.1 u.2 ks si kb) t.heap) A) 0 0 A := by
  refine Met.ofW (cc := cX2_record) (maxL := 2) (ret := none) (by decide) rfl ?_
  intro p e s m args below meth c s₁ B hml hv
  obtain ⟨rfl, hP, hK, hD, hE⟩ := hv
  have hx := B.exec
  have hb := B.bytes
  have hr := B.returns
  have hts := atoms_spec (ws := wsX2_record) B.pre
  have hown : s.vm.findClass RX2 = some m.cls := findClass_of_methodNamed B.named
  have hlocks := B.notSynchronized
  have hS : va_S A s.heap s.heap [] := va_S.rf
  have hl := lv_entry ([.ref (ad 20), .ref (ad 15)]) (n := 2) (Nat.le_of_ble_eq_true rfl)
  rw [lg_entry_eq]
  generalize (lg_sl ([.ref (ad 20), .ref (ad 15)]) ++ List.replicate (2 - (lg_sl ([.ref (ad 20), .ref (ad 15)])).length) Slot.unset).toArray = ls at hl ⊢
  have hl : lv_has ls 2 [(0, .ref (ad 20)), (1, .ref (ad 15))] := hl
  refine lv_aload_n hx hb dX2_record_0 rfl (lv_at hl 0 rfl) ?_
  refine va_get (D := D) (ci := 2) (v := .ref (ad 21)) (C := RX2) (T := TX2) (N := 3) hx hb hts (by decide +kernel) hown hK hP 20 rfl rfl 0 (by decide) (hts (.fieldLink RX2 14 "SummitTime$Past" "shelf" "LSummitTime$Shelf;") (by decide +kernel)) (fun _ h9 => h9) rfl dX2_record_1 ?_
  refine lv_aload_n hx hb dX2_record_4 rfl (lv_at hl 0 rfl) ?_
  refine va_get (D := D) (ci := 2) (v := .int (nI pn.1)) (C := RX2) (T := TX2) (N := 3) hx hb hts (by decide +kernel) hown hK hP 20 rfl rfl 1 (by decide) (hts (.fieldLink RX2 20 "SummitTime$Past" "next" "I") (by decide +kernel)) (fun _ h9 => h9) rfl dX2_record_5 ?_
  refine lv_aload_n hx hb dX2_record_8 rfl (lv_at hl 1 rfl) ?_
  refine va_callv (va_runV (As := [.int (nI pn.1), .ref (ad 15)]) (rest := []) ⟨hx, hb, hml, hown, hts⟩ (c_X3_put_p l D cI cL cZ ad A tx td dr dy lb pn ps ks si kb pn.1 (by first | assumption | omega)) (cwV 2 hts gX2_record_X3_put rfl rfl rfl (by decide +kernel) ⟨Nat.le_of_ble_eq_true rfl, Nat.le_of_ble_eq_true rfl⟩) ⟨sR_fb, va_recv hK hP (ci := 3) (q0 := 21) rfl rfl, sR_at hP hK hD hE⟩ rfl rfl hl.1 rfl (lv_room (Nat.le_of_ble_eq_true rfl)) dX2_record_9 ⟨Nat.zero_le _, Nat.zero_le _⟩) hS (fun q _ h => h) (fun q h => h) (fun u t H locs ht hvm hw hB hz1 hk1 hS => ?_)
  subst hw
  rw [ht] at hB
  have hP : va_P D vwCl (xW cI cL cZ ad tx td dr dy lb pn (f_X3_put_p dy ps pn.1) ks si kb) H := hB
  have hD : va_D A (xW cI cL cZ ad tx td dr dy lb pn (f_X3_put_p dy ps pn.1) ks si kb) := xW_D hD
  refine lv_aload_n hx hb dX2_record_12 rfl (lv_at hl 0 rfl) ?_
  refine lv_aload_n hx hb dX2_record_13 rfl (lv_at hl 0 rfl) ?_
  refine va_get (D := D) (ci := 2) (v := .int (nI pn.1)) (C := RX2) (T := TX2) (N := 3) hx hb hts (by decide +kernel) hown hK hP 20 rfl rfl 1 (by decide) (hts (.fieldLink RX2 20 "SummitTime$Past" "next" "I") (by decide +kernel)) (fun _ h9 => h9) rfl dX2_record_14 ?_
  refine lv_iconst (v := nI 1) hx hb dX2_record_17 rfl ?_
  refine mv_iadd hx hb dX2_record_18 ?_
  refine lv_bipush (v := nI 8) hx hb dX2_record_19 rfl ?_
  refine mv_irem hx hb dX2_record_21 (by omega) (by omega) (by omega) ?_
  refine va_put (D := D) (ci := 2) (v := .int (nI ((pn.1 + 1) % 8))) (ty := .int) (C := RX2) (T := TX2) (N := 3) hx hb hts (by decide +kernel) tyX2 tyX2_ok nmX2 hown hK hP hD hS 20 rfl rfl 1 (by decide) (hts (.fieldLink RX2 20 "SummitTime$Past" "next" "I") (by decide +kernel)) (fun _ h9 => h9) rfl (by decide +kernel) rfl rfl (Nat.le_of_ble_eq_true rfl) dX2_record_22 (fun H locs hP hD hS => ?_)
  have hP : va_P D vwCl (xW cI cL cZ ad tx td dr dy lb (((pn.1 + 1) % 8), pn.2) (f_X3_put_p dy ps pn.1) ks si kb) H := hP
  have hD : va_D A (xW cI cL cZ ad tx td dr dy lb (((pn.1 + 1) % 8), pn.2) (f_X3_put_p dy ps pn.1) ks si kb) := hD
  refine lv_aload_n hx hb dX2_record_25 rfl (lv_at hl 0 rfl) ?_
  refine lv_aload_n hx hb dX2_record_26 rfl (lv_at hl 0 rfl) ?_
  refine va_get (D := D) (ci := 2) (v := .int (nI pn.2)) (C := RX2) (T := TX2) (N := 3) hx hb hts (by decide +kernel) hown hK hP 20 rfl rfl 2 (by decide) (hts (.fieldLink RX2 24 "SummitTime$Past" "held" "I") (by decide +kernel)) (fun _ h9 => h9) rfl dX2_record_27 ?_
  refine lv_iconst (v := nI 1) hx hb dX2_record_30 rfl ?_
  refine mv_iadd hx hb dX2_record_31 ?_
  refine lv_bipush (v := nI 8) hx hb dX2_record_32 rfl ?_
  refine va_mmin hx hb (hml.trans hl.1.symm) hown (hts (.methodLink RX2 31 Lib.Math.min.name) (by decide +kernel)) (hts (.static Lib.Math.min.name) (by decide +kernel)) (hts (.initialized "java/lang/Math") (by decide +kernel)) (hts _ (List.mem_of_getElem? (i := 7) rfl)) (Nat.le_of_ble_eq_true rfl) (Nat.le_of_ble_eq_true rfl) (Nat.zero_le _) (Nat.zero_le _) dX2_record_34 ?_
  refine mv_top (y := nI (if 8 < pn.2 + 1 then 8 else pn.2 + 1)) (nI_min (by omega) (by decide)) ?_
  refine va_put (D := D) (ci := 2) (v := .int (nI (if 8 < pn.2 + 1 then 8 else pn.2 + 1))) (ty := .int) (C := RX2) (T := TX2) (N := 3) hx hb hts (by decide +kernel) tyX2 tyX2_ok nmX2 hown hK hP hD hS 20 rfl rfl 2 (by decide) (hts (.fieldLink RX2 24 "SummitTime$Past" "held" "I") (by decide +kernel)) (fun _ h9 => h9) rfl (by decide +kernel) rfl rfl (Nat.le_of_ble_eq_true rfl) dX2_record_37 (fun H locs hP hD hS => ?_)
  have hP : va_P D vwCl (xW cI cL cZ ad tx td dr dy lb (((pn.1 + 1) % 8), (if 8 < pn.2 + 1 then 8 else pn.2 + 1)) (f_X3_put_p dy ps pn.1) ks si kb) H := hP
  have hD : va_D A (xW cI cL cZ ad tx td dr dy lb (((pn.1 + 1) % 8), (if 8 < pn.2 + 1 then 8 else pn.2 + 1)) (f_X3_put_p dy ps pn.1) ks si kb) := hD
  have hf : (f_X2_record dy pn ps) = ((((pn.1 + 1) % 8), (if 8 < pn.2 + 1 then 8 else pn.2 + 1)), (f_X3_put_p dy ps pn.1)) := by rw [f_X2_record]
  exact W.vret hx hb hr (fun t ht hW => ⟨⟨((((pn.1 + 1) % 8), (if 8 < pn.2 + 1 then 8 else pn.2 + 1)), (f_X3_put_p dy ps pn.1)), rfl, hf.symm, va_Pt ht hP⟩, hS.F ht⟩) hS.2.2 dX2_record_40
def f_X2_takeBack (dy : XDy) (pn : (Nat × Nat)) (ps : XSh) : Int32 × XDy × (Nat × Nat) := (if pn.2 = 0 then (nI 0, dy, pn) else (nI 1, (f_X3_fetch_p dy ps (((pn.1 + 8) - 1) % 8)), ((((pn.1 + 8) - 1) % 8), (pn.2 - 1))))
theorem f_X2_takeBack_b (dy : XDy) (pn : (Nat × Nat)) (ps : XSh) : (f_X2_takeBack dy pn ps).1 = nI 0 ∨ (f_X2_takeBack dy pn ps).1 = nI 1 := by
  unfold f_X2_takeBack
  (repeat' split) <;> first | exact Or.inl rfl | exact Or.inr rfl | exact f_X8_in_b _ _ _
abbrev rm_X2_takeBack : Room := { frames := 1, cells := 0, slots := 0, locals := 24 }
set_option maxHeartbeats 4000000 in
set_option maxRecDepth 100000 in
theorem c_X2_takeBack (l : Launch) (D : va_G) (cI cL cZ : ClassId) (ad : Nat → Nat) (A : Nat → Prop) (tx : XTx) (td : XTd) (dr : XTd) (dy : XDy) (lb : (Nat → Int32)) (pn : (Nat × Nat)) (ps : XSh) (ks : XSh) (si : XSi) (kb : Int32)  (hn : pn.1 < 8) (hh : pn.2 ≤ 8) : Met l yX2_takeBack wsX2_takeBack rm_X2_takeBack (va_Pc [.ref (ad 20), .ref (ad 15)] (sR D cI cL cZ A (xW cI cL cZ ad tx td dr dy lb pn ps ks si kb))) (va_Qi (fun (r : Int32) (u : XDy × (Nat × Nat)) => r = (f_X2_takeBack dy pn ps).1 ∧ u = (f_X2_takeBack dy pn ps).2) (fun (u : XDy × (Nat × Nat)) t => va_P D vwCl (xW cI cL cZ ad tx td dr u.1 lb u.2 ps ks si kb) t.heap) A) 0 0 A := by
  refine Met.ofW (cc := cX2_takeBack) (maxL := 2) (ret := (some .boolean)) (by decide) rfl ?_
  intro p e s m args below meth c s₁ B hml hv
  obtain ⟨rfl, hP, hK, hD, hE⟩ := hv
  have hx := B.exec
  have hb := B.bytes
  have hr := B.returns
  have hts := atoms_spec (ws := wsX2_takeBack) B.pre
  have hown : s.vm.findClass RX2 = some m.cls := findClass_of_methodNamed B.named
  have hlocks := B.notSynchronized
  have hS : va_S A s.heap s.heap [] := va_S.rf
  have hl := lv_entry ([.ref (ad 20), .ref (ad 15)]) (n := 2) (Nat.le_of_ble_eq_true rfl)
  rw [lg_entry_eq]
  generalize (lg_sl ([.ref (ad 20), .ref (ad 15)]) ++ List.replicate (2 - (lg_sl ([.ref (ad 20), .ref (ad 15)])).length) Slot.unset).toArray = ls at hl ⊢
  have hl : lv_has ls 2 [(0, .ref (ad 20)), (1, .ref (ad 15))] := hl
  refine lv_aload_n hx hb dX2_takeBack_0 rfl (lv_at hl 0 rfl) ?_
  refine va_get (D := D) (ci := 2) (v := .int (nI pn.2)) (C := RX2) (T := TX2) (N := 3) hx hb hts (by decide +kernel) hown hK hP 20 rfl rfl 2 (by decide) (hts (.fieldLink RX2 24 "SummitTime$Past" "held" "I") (by decide +kernel)) (fun _ h9 => h9) rfl dX2_takeBack_1 ?_
  refine mv_if_ne (tgt := 9) hx hb dX2_takeBack_4 (by decide) (by omega) (fun c_1 => ?_) (fun c_1 => ?_)
  · refine lv_aload_n hx hb dX2_takeBack_9 rfl (lv_at hl 0 rfl) ?_
    refine lv_aload_n hx hb dX2_takeBack_10 rfl (lv_at hl 0 rfl) ?_
    refine va_get (D := D) (ci := 2) (v := .int (nI pn.1)) (C := RX2) (T := TX2) (N := 3) hx hb hts (by decide +kernel) hown hK hP 20 rfl rfl 1 (by decide) (hts (.fieldLink RX2 20 "SummitTime$Past" "next" "I") (by decide +kernel)) (fun _ h9 => h9) rfl dX2_takeBack_11 ?_
    refine lv_bipush (v := nI 8) hx hb dX2_takeBack_14 rfl ?_
    refine mv_iadd hx hb dX2_takeBack_16 ?_
    refine lv_iconst (v := nI 1) hx hb dX2_takeBack_17 rfl ?_
    refine mv_isub hx hb dX2_takeBack_18 (by omega) ?_
    refine lv_bipush (v := nI 8) hx hb dX2_takeBack_19 rfl ?_
    refine mv_irem hx hb dX2_takeBack_21 (by omega) (by omega) (by omega) ?_
    refine va_put (D := D) (ci := 2) (v := .int (nI (((pn.1 + 8) - 1) % 8))) (ty := .int) (C := RX2) (T := TX2) (N := 3) hx hb hts (by decide +kernel) tyX2 tyX2_ok nmX2 hown hK hP hD hS 20 rfl rfl 1 (by decide) (hts (.fieldLink RX2 20 "SummitTime$Past" "next" "I") (by decide +kernel)) (fun _ h9 => h9) rfl (by decide +kernel) rfl rfl (Nat.le_of_ble_eq_true rfl) dX2_takeBack_22 (fun H locs hP hD hS => ?_)
    have hP : va_P D vwCl (xW cI cL cZ ad tx td dr dy lb ((((pn.1 + 8) - 1) % 8), pn.2) ps ks si kb) H := hP
    have hD : va_D A (xW cI cL cZ ad tx td dr dy lb ((((pn.1 + 8) - 1) % 8), pn.2) ps ks si kb) := hD
    refine lv_aload_n hx hb dX2_takeBack_25 rfl (lv_at hl 0 rfl) ?_
    refine lv_dup hx hb dX2_takeBack_26 rfl ?_
    refine va_get (D := D) (ci := 2) (v := .int (nI pn.2)) (C := RX2) (T := TX2) (N := 3) hx hb hts (by decide +kernel) hown hK hP 20 rfl rfl 2 (by decide) (hts (.fieldLink RX2 24 "SummitTime$Past" "held" "I") (by decide +kernel)) (fun _ h9 => h9) rfl dX2_takeBack_27 ?_
    refine lv_iconst (v := nI 1) hx hb dX2_takeBack_30 rfl ?_
    refine mv_isub hx hb dX2_takeBack_31 (by omega) ?_
    refine va_put (D := D) (ci := 2) (v := .int (nI (pn.2 - 1))) (ty := .int) (C := RX2) (T := TX2) (N := 3) hx hb hts (by decide +kernel) tyX2 tyX2_ok nmX2 hown hK hP hD hS 20 rfl rfl 2 (by decide) (hts (.fieldLink RX2 24 "SummitTime$Past" "held" "I") (by decide +kernel)) (fun _ h9 => h9) rfl (by decide +kernel) rfl rfl (Nat.le_of_ble_eq_true rfl) dX2_takeBack_32 (fun H locs hP hD hS => ?_)
    have hP : va_P D vwCl (xW cI cL cZ ad tx td dr dy lb ((((pn.1 + 8) - 1) % 8), (pn.2 - 1)) ps ks si kb) H := hP
    have hD : va_D A (xW cI cL cZ ad tx td dr dy lb ((((pn.1 + 8) - 1) % 8), (pn.2 - 1)) ps ks si kb) := hD
    refine lv_aload_n hx hb dX2_takeBack_35 rfl (lv_at hl 0 rfl) ?_
    refine va_get (D := D) (ci := 2) (v := .ref (ad 21)) (C := RX2) (T := TX2) (N := 3) hx hb hts (by decide +kernel) hown hK hP 20 rfl rfl 0 (by decide) (hts (.fieldLink RX2 14 "SummitTime$Past" "shelf" "LSummitTime$Shelf;") (by decide +kernel)) (fun _ h9 => h9) rfl dX2_takeBack_36 ?_
    refine lv_aload_n hx hb dX2_takeBack_39 rfl (lv_at hl 0 rfl) ?_
    refine va_get (D := D) (ci := 2) (v := .int (nI (((pn.1 + 8) - 1) % 8))) (C := RX2) (T := TX2) (N := 3) hx hb hts (by decide +kernel) hown hK hP 20 rfl rfl 1 (by decide) (hts (.fieldLink RX2 20 "SummitTime$Past" "next" "I") (by decide +kernel)) (fun _ h9 => h9) rfl dX2_takeBack_40 ?_
    refine lv_aload_n hx hb dX2_takeBack_43 rfl (lv_at hl 1 rfl) ?_
    refine va_callv (va_runV (As := [.int (nI (((pn.1 + 8) - 1) % 8)), .ref (ad 15)]) (rest := []) ⟨hx, hb, hml, hown, hts⟩ (c_X3_fetch_p l D cI cL cZ ad A tx td dr dy lb ((((pn.1 + 8) - 1) % 8), (pn.2 - 1)) ps ks si kb (((pn.1 + 8) - 1) % 8) (by first | assumption | omega)) (cwV 2 hts gX2_takeBack_X3_fetch rfl rfl rfl (by decide +kernel) ⟨Nat.le_of_ble_eq_true rfl, Nat.le_of_ble_eq_true rfl⟩) ⟨sR_fb, va_recv hK hP (ci := 3) (q0 := 21) rfl rfl, sR_at hP hK hD hE⟩ rfl rfl hl.1 rfl (lv_room (Nat.le_of_ble_eq_true rfl)) dX2_takeBack_44 ⟨Nat.zero_le _, Nat.zero_le _⟩) hS (fun q _ h => h) (fun q h => h) (fun u t H locs ht hvm hw hB hz1 hk1 hS => ?_)
    subst hw
    rw [ht] at hB
    have hP : va_P D vwCl (xW cI cL cZ ad tx td dr (f_X3_fetch_p dy ps (((pn.1 + 8) - 1) % 8)) lb ((((pn.1 + 8) - 1) % 8), (pn.2 - 1)) ps ks si kb) H := hB
    have hD : va_D A (xW cI cL cZ ad tx td dr (f_X3_fetch_p dy ps (((pn.1 + 8) - 1) % 8)) lb ((((pn.1 + 8) - 1) % 8), (pn.2 - 1)) ps ks si kb) := xW_D hD
    refine lv_iconst (v := nI 1) hx hb dX2_takeBack_47 rfl ?_
    have hf : (f_X2_takeBack dy pn ps) = (nI 1, (f_X3_fetch_p dy ps (((pn.1 + 8) - 1) % 8)), ((((pn.1 + 8) - 1) % 8), (pn.2 - 1))) := by rw [f_X2_takeBack, if_neg c_1]
    have hf1 : nI 1 = (f_X2_takeBack dy pn ps).1 := by rw [hf]
    have hf2 : ((f_X3_fetch_p dy ps (((pn.1 + 8) - 1) % 8)), ((((pn.1 + 8) - 1) % 8), (pn.2 - 1))) = (f_X2_takeBack dy pn ps).2 := by rw [hf]
    exact W.zret (v := nI 1) (ty := .boolean) hx hb hr rfl (fun t ht hW => ⟨⟨nI 1, ((f_X3_fetch_p dy ps (((pn.1 + 8) - 1) % 8)), ((((pn.1 + 8) - 1) % 8), (pn.2 - 1))), rfl, ⟨hf1, hf2⟩, va_Pt ht hP⟩, hS.F ht⟩) hS.2.2 dX2_takeBack_48
  · refine lv_iconst (v := nI 0) hx hb dX2_takeBack_7 rfl ?_
    have hf : (f_X2_takeBack dy pn ps) = (nI 0, dy, pn) := by rw [f_X2_takeBack, if_pos c_1]
    have hf1 : nI 0 = (f_X2_takeBack dy pn ps).1 := by rw [hf]
    have hf2 : (dy, pn) = (f_X2_takeBack dy pn ps).2 := by rw [hf]
    exact W.zret (v := nI 0) (ty := .boolean) hx hb hr rfl (fun t ht hW => ⟨⟨nI 0, (dy, pn), rfl, ⟨hf1, hf2⟩, va_Pt ht hP⟩, hS.F ht⟩) hS.2.2 dX2_takeBack_8
def f_X2_empty (pn : (Nat × Nat)) : (Nat × Nat) := (pn.1, 0)
abbrev rm_X2_empty : Room := { frames := 0, cells := 0, slots := 0, locals := 0 }
set_option maxHeartbeats 4000000 in
set_option maxRecDepth 100000 in
theorem c_X2_empty (l : Launch) (D : va_G) (cI cL cZ : ClassId) (ad : Nat → Nat) (A : Nat → Prop) (tx : XTx) (td : XTd) (dr : XTd) (dy : XDy) (lb : (Nat → Int32)) (pn : (Nat × Nat)) (ps : XSh) (ks : XSh) (si : XSi) (kb : Int32)   : Met l yX2_empty wsX2_empty rm_X2_empty (va_Pc [.ref (ad 20)] (sR D cI cL cZ A (xW cI cL cZ ad tx td dr dy lb pn ps ks si kb))) (va_Qv (fun (u : (Nat × Nat)) => u = (f_X2_empty pn)) (fun (u : (Nat × Nat)) t => va_P D vwCl (xW cI cL cZ ad tx td dr dy lb u ps ks si kb) t.heap) A) 0 0 A := by
  refine Met.ofW (cc := cX2_empty) (maxL := 1) (ret := none) (by decide) rfl ?_
  intro p e s m args below meth c s₁ B hml hv
  obtain ⟨rfl, hP, hK, hD, hE⟩ := hv
  have hx := B.exec
  have hb := B.bytes
  have hr := B.returns
  have hts := atoms_spec (ws := wsX2_empty) B.pre
  have hown : s.vm.findClass RX2 = some m.cls := findClass_of_methodNamed B.named
  have hlocks := B.notSynchronized
  have hS : va_S A s.heap s.heap [] := va_S.rf
  have hl := lv_entry ([.ref (ad 20)]) (n := 1) (Nat.le_of_ble_eq_true rfl)
  rw [lg_entry_eq]
  generalize (lg_sl ([.ref (ad 20)]) ++ List.replicate (1 - (lg_sl ([.ref (ad 20)])).length) Slot.unset).toArray = ls at hl ⊢
  have hl : lv_has ls 1 [(0, .ref (ad 20))] := hl
  refine lv_aload_n hx hb dX2_empty_0 rfl (lv_at hl 0 rfl) ?_
  refine lv_iconst (v := nI 0) hx hb dX2_empty_1 rfl ?_
  refine va_put (D := D) (ci := 2) (v := .int (nI 0)) (ty := .int) (C := RX2) (T := TX2) (N := 3) hx hb hts (by decide +kernel) tyX2 tyX2_ok nmX2 hown hK hP hD hS 20 rfl rfl 2 (by decide) (hts (.fieldLink RX2 24 "SummitTime$Past" "held" "I") (by decide +kernel)) (fun _ h9 => h9) rfl (by decide +kernel) rfl rfl (Nat.le_of_ble_eq_true rfl) dX2_empty_2 (fun H locs hP hD hS => ?_)
  have hP : va_P D vwCl (xW cI cL cZ ad tx td dr dy lb (pn.1, 0) ps ks si kb) H := hP
  have hD : va_D A (xW cI cL cZ ad tx td dr dy lb (pn.1, 0) ps ks si kb) := hD
  have hf : (f_X2_empty pn) = (pn.1, 0) := by rw [f_X2_empty]
  exact W.vret hx hb hr (fun t ht hW => ⟨⟨(pn.1, 0), rfl, hf.symm, va_Pt ht hP⟩, hS.F ht⟩) hS.2.2 dX2_empty_5
def f_X2_size (pn : (Nat × Nat)) : Int32 := nI pn.2
abbrev rm_X2_size : Room := { frames := 0, cells := 0, slots := 0, locals := 0 }
set_option maxHeartbeats 4000000 in
set_option maxRecDepth 100000 in
theorem c_X2_size (l : Launch) (D : va_G) (cI cL cZ : ClassId) (ad : Nat → Nat) (A : Nat → Prop) (tx : XTx) (td : XTd) (dr : XTd) (dy : XDy) (lb : (Nat → Int32)) (pn : (Nat × Nat)) (ps : XSh) (ks : XSh) (si : XSi) (kb : Int32)   : Met l yX2_size wsX2_size rm_X2_size (va_Pc [.ref (ad 20)] (sR D cI cL cZ A (xW cI cL cZ ad tx td dr dy lb pn ps ks si kb))) (vp_Si (fun r => r = (f_X2_size pn))) 0 0 (fun _ => False) := by
  refine Met.ofW (cc := cX2_size) (maxL := 1) (ret := (some .int)) (by decide) rfl ?_
  intro p e s m args below meth c s₁ B hml hv
  obtain ⟨rfl, hP, hK, hD, hE⟩ := hv
  have hx := B.exec
  have hb := B.bytes
  have hr := B.returns
  have hts := atoms_spec (ws := wsX2_size) B.pre
  have hown : s.vm.findClass RX2 = some m.cls := findClass_of_methodNamed B.named
  have hlocks := B.notSynchronized
  have hl := lv_entry ([.ref (ad 20)]) (n := 1) (Nat.le_of_ble_eq_true rfl)
  rw [lg_entry_eq]
  generalize (lg_sl ([.ref (ad 20)]) ++ List.replicate (1 - (lg_sl ([.ref (ad 20)])).length) Slot.unset).toArray = ls at hl ⊢
  have hl : lv_has ls 1 [(0, .ref (ad 20))] := hl
  refine lv_aload_n hx hb dX2_size_0 rfl (lv_at hl 0 rfl) ?_
  refine va_get (D := D) (ci := 2) (v := .int (nI pn.2)) (C := RX2) (T := TX2) (N := 3) hx hb hts (by decide +kernel) hown hK hP 20 rfl rfl 2 (by decide) (hts (.fieldLink RX2 24 "SummitTime$Past" "held" "I") (by decide +kernel)) (fun _ h9 => h9) rfl dX2_size_1 ?_
  have hf : (f_X2_size pn) = nI pn.2 := by rw [f_X2_size]
  exact W.iret (v := nI pn.2) hx hb hr (fun t ht hW => ⟨nI pn.2, rfl, hf.symm, ht⟩) (fun _ h => by cases h) dX2_size_4
def f_X4_add (si : XSi) (pa : Int32) (fi : Int32) : Int32 × XSi := (if si.2.2 < 6 then (nI 1, ((upd si.1 si.2.2 pa), (upd si.2.1 si.2.2 fi), (si.2.2 + 1))) else (nI 0, si))
theorem f_X4_add_b (si : XSi) (pa : Int32) (fi : Int32) : (f_X4_add si pa fi).1 = nI 0 ∨ (f_X4_add si pa fi).1 = nI 1 := by
  unfold f_X4_add
  (repeat' split) <;> first | exact Or.inl rfl | exact Or.inr rfl | exact f_X8_in_b _ _ _
abbrev rm_X4_add : Room := { frames := 0, cells := 0, slots := 0, locals := 0 }
set_option maxHeartbeats 4000000 in
set_option maxRecDepth 100000 in
theorem c_X4_add (l : Launch) (D : va_G) (cI cL cZ : ClassId) (ad : Nat → Nat) (A : Nat → Prop) (tx : XTx) (td : XTd) (dr : XTd) (dy : XDy) (lb : (Nat → Int32)) (pn : (Nat × Nat)) (ps : XSh) (ks : XSh) (si : XSi) (kb : Int32) (pa : Int32) (fi : Int32) (hh : si.2.2 ≤ 6) : Met l yX4_add wsX4_add rm_X4_add (va_Pc [.ref (ad 31), .int pa, .int fi] (sR D cI cL cZ A (xW cI cL cZ ad tx td dr dy lb pn ps ks si kb))) (va_Qi (fun (r : Int32) (u : XSi) => r = (f_X4_add si pa fi).1 ∧ u = (f_X4_add si pa fi).2) (fun (u : XSi) t => va_P D vwCl (xW cI cL cZ ad tx td dr dy lb pn ps ks u kb) t.heap) A) 0 0 A := by
  refine Met.ofW (cc := cX4_add) (maxL := 3) (ret := (some .boolean)) (by decide) rfl ?_
  intro p e s m args below meth c s₁ B hml hv
  obtain ⟨rfl, hP, hK, hD, hE⟩ := hv
  have hx := B.exec
  have hb := B.bytes
  have hr := B.returns
  have hts := atoms_spec (ws := wsX4_add) B.pre
  have hown : s.vm.findClass RX4 = some m.cls := findClass_of_methodNamed B.named
  have hlocks := B.notSynchronized
  have hS : va_S A s.heap s.heap [] := va_S.rf
  have hl := lv_entry ([.ref (ad 31), .int pa, .int fi]) (n := 3) (Nat.le_of_ble_eq_true rfl)
  rw [lg_entry_eq]
  generalize (lg_sl ([.ref (ad 31), .int pa, .int fi]) ++ List.replicate (3 - (lg_sl ([.ref (ad 31), .int pa, .int fi])).length) Slot.unset).toArray = ls at hl ⊢
  have hl : lv_has ls 3 [(0, .ref (ad 31)), (1, .int pa), (2, .int fi)] := hl
  refine lv_aload_n hx hb dX4_add_0 rfl (lv_at hl 0 rfl) ?_
  refine va_get (D := D) (ci := 4) (v := .int (nI si.2.2)) (C := RX4) (T := TX4) (N := 3) hx hb hts (by decide +kernel) hown hK hP 31 rfl rfl 2 (by decide) (hts (.fieldLink RX4 18 "SummitTime$Sightings" "held" "I") (by decide +kernel)) (fun _ h9 => h9) rfl dX4_add_1 ?_
  refine mv_if_lt (tgt := 16) hx hb dX4_add_4 (by decide) (by omega) ?_
  refine lv_aload_n hx hb dX4_add_7 rfl (lv_at hl 0 rfl) ?_
  refine va_get (D := D) (ci := 4) (v := .int (nI si.2.2)) (C := RX4) (T := TX4) (N := 3) hx hb hts (by decide +kernel) hown hK hP 31 rfl rfl 2 (by decide) (hts (.fieldLink RX4 18 "SummitTime$Sightings" "held" "I") (by decide +kernel)) (fun _ h9 => h9) rfl dX4_add_8 ?_
  refine lv_bipush (v := nI 6) hx hb dX4_add_11 rfl ?_
  refine mv_icmp_lt (tgt := 18) hx hb dX4_add_13 (by decide) (by omega) (by decide) (fun c_1 => ?_) (fun c_1 => ?_)
  · refine lv_aload_n hx hb dX4_add_18 rfl (lv_at hl 0 rfl) ?_
    refine va_get (D := D) (ci := 4) (v := .ref (ad 32)) (C := RX4) (T := TX4) (N := 3) hx hb hts (by decide +kernel) hown hK hP 31 rfl rfl 0 (by decide) (hts (.fieldLink RX4 9 "SummitTime$Sightings" "who" "[I") (by decide +kernel)) (fun _ h9 => h9) rfl dX4_add_19 ?_
    refine lv_aload_n hx hb dX4_add_22 rfl (lv_at hl 0 rfl) ?_
    refine va_get (D := D) (ci := 4) (v := .int (nI si.2.2)) (C := RX4) (T := TX4) (N := 3) hx hb hts (by decide +kernel) hown hK hP 31 rfl rfl 2 (by decide) (hts (.fieldLink RX4 18 "SummitTime$Sightings" "held" "I") (by decide +kernel)) (fun _ h9 => h9) rfl dX4_add_23 ?_
    refine lv_iload_n hx hb dX4_add_26 rfl (lv_at hl 1 rfl) ?_
    refine mv_iast (f := si.1) hx hb hK hP hD hS 32 0 rfl rfl (by omega) (by decide) dX4_add_27 (fun H locs hP hD hS => ?_)
    have hP : va_P D vwCl (xW cI cL cZ ad tx td dr dy lb pn ps ks ((upd si.1 si.2.2 pa), si.2.1, si.2.2) kb) H := hP
    have hD : va_D A (xW cI cL cZ ad tx td dr dy lb pn ps ks ((upd si.1 si.2.2 pa), si.2.1, si.2.2) kb) := hD
    refine lv_aload_n hx hb dX4_add_28 rfl (lv_at hl 0 rfl) ?_
    refine va_get (D := D) (ci := 4) (v := .ref (ad 33)) (C := RX4) (T := TX4) (N := 3) hx hb hts (by decide +kernel) hown hK hP 31 rfl rfl 1 (by decide) (hts (.fieldLink RX4 15 "SummitTime$Sightings" "fines" "[I") (by decide +kernel)) (fun _ h9 => h9) rfl dX4_add_29 ?_
    refine lv_aload_n hx hb dX4_add_32 rfl (lv_at hl 0 rfl) ?_
    refine va_get (D := D) (ci := 4) (v := .int (nI si.2.2)) (C := RX4) (T := TX4) (N := 3) hx hb hts (by decide +kernel) hown hK hP 31 rfl rfl 2 (by decide) (hts (.fieldLink RX4 18 "SummitTime$Sightings" "held" "I") (by decide +kernel)) (fun _ h9 => h9) rfl dX4_add_33 ?_
    refine lv_iload_n hx hb dX4_add_36 rfl (lv_at hl 2 rfl) ?_
    refine mv_iast (f := si.2.1) hx hb hK hP hD hS 33 0 rfl rfl (by omega) (by decide) dX4_add_37 (fun H locs hP hD hS => ?_)
    have hP : va_P D vwCl (xW cI cL cZ ad tx td dr dy lb pn ps ks ((upd si.1 si.2.2 pa), (upd si.2.1 si.2.2 fi), si.2.2) kb) H := hP
    have hD : va_D A (xW cI cL cZ ad tx td dr dy lb pn ps ks ((upd si.1 si.2.2 pa), (upd si.2.1 si.2.2 fi), si.2.2) kb) := hD
    refine lv_aload_n hx hb dX4_add_38 rfl (lv_at hl 0 rfl) ?_
    refine lv_dup hx hb dX4_add_39 rfl ?_
    refine va_get (D := D) (ci := 4) (v := .int (nI si.2.2)) (C := RX4) (T := TX4) (N := 3) hx hb hts (by decide +kernel) hown hK hP 31 rfl rfl 2 (by decide) (hts (.fieldLink RX4 18 "SummitTime$Sightings" "held" "I") (by decide +kernel)) (fun _ h9 => h9) rfl dX4_add_40 ?_
    refine lv_iconst (v := nI 1) hx hb dX4_add_43 rfl ?_
    refine mv_iadd hx hb dX4_add_44 ?_
    refine va_put (D := D) (ci := 4) (v := .int (nI (si.2.2 + 1))) (ty := .int) (C := RX4) (T := TX4) (N := 3) hx hb hts (by decide +kernel) tyX4 tyX4_ok nmX4 hown hK hP hD hS 31 rfl rfl 2 (by decide) (hts (.fieldLink RX4 18 "SummitTime$Sightings" "held" "I") (by decide +kernel)) (fun _ h9 => h9) rfl (by decide +kernel) rfl rfl (Nat.le_of_ble_eq_true rfl) dX4_add_45 (fun H locs hP hD hS => ?_)
    have hP : va_P D vwCl (xW cI cL cZ ad tx td dr dy lb pn ps ks ((upd si.1 si.2.2 pa), (upd si.2.1 si.2.2 fi), (si.2.2 + 1)) kb) H := hP
    have hD : va_D A (xW cI cL cZ ad tx td dr dy lb pn ps ks ((upd si.1 si.2.2 pa), (upd si.2.1 si.2.2 fi), (si.2.2 + 1)) kb) := hD
    refine lv_iconst (v := nI 1) hx hb dX4_add_48 rfl ?_
    have hf : (f_X4_add si pa fi) = (nI 1, ((upd si.1 si.2.2 pa), (upd si.2.1 si.2.2 fi), (si.2.2 + 1))) := by rw [f_X4_add, if_pos c_1]
    have hf1 : nI 1 = (f_X4_add si pa fi).1 := by rw [hf]
    have hf2 : ((upd si.1 si.2.2 pa), (upd si.2.1 si.2.2 fi), (si.2.2 + 1)) = (f_X4_add si pa fi).2 := by rw [hf]
    exact W.zret (v := nI 1) (ty := .boolean) hx hb hr rfl (fun t ht hW => ⟨⟨nI 1, ((upd si.1 si.2.2 pa), (upd si.2.1 si.2.2 fi), (si.2.2 + 1)), rfl, ⟨hf1, hf2⟩, va_Pt ht hP⟩, hS.F ht⟩) hS.2.2 dX4_add_49
  · refine lv_iconst (v := nI 0) hx hb dX4_add_16 rfl ?_
    have hf : (f_X4_add si pa fi) = (nI 0, si) := by rw [f_X4_add, if_neg c_1]
    have hf1 : nI 0 = (f_X4_add si pa fi).1 := by rw [hf]
    have hf2 : si = (f_X4_add si pa fi).2 := by rw [hf]
    exact W.zret (v := nI 0) (ty := .boolean) hx hb hr rfl (fun t ht hW => ⟨⟨nI 0, si, rfl, ⟨hf1, hf2⟩, va_Pt ht hP⟩, hS.F ht⟩) hS.2.2 dX4_add_17
def f_X4_empty (si : XSi) : XSi := (si.1, si.2.1, 0)
abbrev rm_X4_empty : Room := { frames := 0, cells := 0, slots := 0, locals := 0 }
set_option maxHeartbeats 4000000 in
set_option maxRecDepth 100000 in
theorem c_X4_empty (l : Launch) (D : va_G) (cI cL cZ : ClassId) (ad : Nat → Nat) (A : Nat → Prop) (tx : XTx) (td : XTd) (dr : XTd) (dy : XDy) (lb : (Nat → Int32)) (pn : (Nat × Nat)) (ps : XSh) (ks : XSh) (si : XSi) (kb : Int32)   : Met l yX4_empty wsX4_empty rm_X4_empty (va_Pc [.ref (ad 31)] (sR D cI cL cZ A (xW cI cL cZ ad tx td dr dy lb pn ps ks si kb))) (va_Qv (fun (u : XSi) => u = (f_X4_empty si)) (fun (u : XSi) t => va_P D vwCl (xW cI cL cZ ad tx td dr dy lb pn ps ks u kb) t.heap) A) 0 0 A := by
  refine Met.ofW (cc := cX4_empty) (maxL := 1) (ret := none) (by decide) rfl ?_
  intro p e s m args below meth c s₁ B hml hv
  obtain ⟨rfl, hP, hK, hD, hE⟩ := hv
  have hx := B.exec
  have hb := B.bytes
  have hr := B.returns
  have hts := atoms_spec (ws := wsX4_empty) B.pre
  have hown : s.vm.findClass RX4 = some m.cls := findClass_of_methodNamed B.named
  have hlocks := B.notSynchronized
  have hS : va_S A s.heap s.heap [] := va_S.rf
  have hl := lv_entry ([.ref (ad 31)]) (n := 1) (Nat.le_of_ble_eq_true rfl)
  rw [lg_entry_eq]
  generalize (lg_sl ([.ref (ad 31)]) ++ List.replicate (1 - (lg_sl ([.ref (ad 31)])).length) Slot.unset).toArray = ls at hl ⊢
  have hl : lv_has ls 1 [(0, .ref (ad 31))] := hl
  refine lv_aload_n hx hb dX4_empty_0 rfl (lv_at hl 0 rfl) ?_
  refine lv_iconst (v := nI 0) hx hb dX4_empty_1 rfl ?_
  refine va_put (D := D) (ci := 4) (v := .int (nI 0)) (ty := .int) (C := RX4) (T := TX4) (N := 3) hx hb hts (by decide +kernel) tyX4 tyX4_ok nmX4 hown hK hP hD hS 31 rfl rfl 2 (by decide) (hts (.fieldLink RX4 18 "SummitTime$Sightings" "held" "I") (by decide +kernel)) (fun _ h9 => h9) rfl (by decide +kernel) rfl rfl (Nat.le_of_ble_eq_true rfl) dX4_empty_2 (fun H locs hP hD hS => ?_)
  have hP : va_P D vwCl (xW cI cL cZ ad tx td dr dy lb pn ps ks (si.1, si.2.1, 0) kb) H := hP
  have hD : va_D A (xW cI cL cZ ad tx td dr dy lb pn ps ks (si.1, si.2.1, 0) kb) := hD
  have hf : (f_X4_empty si) = (si.1, si.2.1, 0) := by rw [f_X4_empty]
  exact W.vret hx hb hr (fun t ht hW => ⟨⟨(si.1, si.2.1, 0), rfl, hf.symm, va_Pt ht hP⟩, hS.F ht⟩) hS.2.2 dX4_empty_5
def f_X4_size (si : XSi) : Int32 := nI si.2.2
abbrev rm_X4_size : Room := { frames := 0, cells := 0, slots := 0, locals := 0 }
set_option maxHeartbeats 4000000 in
set_option maxRecDepth 100000 in
theorem c_X4_size (l : Launch) (D : va_G) (cI cL cZ : ClassId) (ad : Nat → Nat) (A : Nat → Prop) (tx : XTx) (td : XTd) (dr : XTd) (dy : XDy) (lb : (Nat → Int32)) (pn : (Nat × Nat)) (ps : XSh) (ks : XSh) (si : XSi) (kb : Int32)   : Met l yX4_size wsX4_size rm_X4_size (va_Pc [.ref (ad 31)] (sR D cI cL cZ A (xW cI cL cZ ad tx td dr dy lb pn ps ks si kb))) (vp_Si (fun r => r = (f_X4_size si))) 0 0 (fun _ => False) := by
  refine Met.ofW (cc := cX4_size) (maxL := 1) (ret := (some .int)) (by decide) rfl ?_
  intro p e s m args below meth c s₁ B hml hv
  obtain ⟨rfl, hP, hK, hD, hE⟩ := hv
  have hx := B.exec
  have hb := B.bytes
  have hr := B.returns
  have hts := atoms_spec (ws := wsX4_size) B.pre
  have hown : s.vm.findClass RX4 = some m.cls := findClass_of_methodNamed B.named
  have hlocks := B.notSynchronized
  have hl := lv_entry ([.ref (ad 31)]) (n := 1) (Nat.le_of_ble_eq_true rfl)
  rw [lg_entry_eq]
  generalize (lg_sl ([.ref (ad 31)]) ++ List.replicate (1 - (lg_sl ([.ref (ad 31)])).length) Slot.unset).toArray = ls at hl ⊢
  have hl : lv_has ls 1 [(0, .ref (ad 31))] := hl
  refine lv_aload_n hx hb dX4_size_0 rfl (lv_at hl 0 rfl) ?_
  refine va_get (D := D) (ci := 4) (v := .int (nI si.2.2)) (C := RX4) (T := TX4) (N := 3) hx hb hts (by decide +kernel) hown hK hP 31 rfl rfl 2 (by decide) (hts (.fieldLink RX4 18 "SummitTime$Sightings" "held" "I") (by decide +kernel)) (fun _ h9 => h9) rfl dX4_size_1 ?_
  have hf : (f_X4_size si) = nI si.2.2 := by rw [f_X4_size]
  exact W.iret (v := nI si.2.2) hx hb hr (fun t ht hW => ⟨nI si.2.2, rfl, hf.symm, ht⟩) (fun _ h => by cases h) dX4_size_4
