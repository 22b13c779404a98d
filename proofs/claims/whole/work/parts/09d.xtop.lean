theorem cpd_pe (td dr : XTd) : (f_X6_copyFrom_d td dr).2.2.2.2.2.1 = td.2.2.2.2.2.1 := rfl
theorem cpE {td dr T : XTd} (e : T = f_X6_copyFrom_d td dr) (h : td.2.2.2.2.2.1 ≤ 6) : T.2.2.2.2.2.1 ≤ 6 := by
  subst e
  exact h
def f_X7_fault (tx : XTx) (td : XTd) (dr : XTd) : Int32 × XTx × XTd := ((f_X5_readInto tx (f_X6_copyFrom_d td dr)).1, (f_X5_readInto tx (f_X6_copyFrom_d td dr)).2.1, (f_X5_readInto tx (f_X6_copyFrom_d td dr)).2.2)
abbrev rm_X7_fault : Room := { frames := 8, cells := 0, slots := 0, locals := 171 }
set_option maxHeartbeats 4000000 in
set_option maxRecDepth 100000 in
theorem c_X7_fault (l : Launch) (D : va_G) (cI cL cZ : ClassId) (ad : Nat → Nat) (A : Nat → Prop) (adK adV : Nat → Nat) (tx : XTx) (td : XTd) (dr : XTd) (dy : XDy) (lb : (Nat → Int32)) (pn : (Nat × Nat)) (ps : XSh) (ks : XSh) (si : XSi) (kb : Int32)  (hl0 : tx.2.1 ≤ 160) (hpe : td.2.2.2.2.2.1 ≤ 6) : Met l yX7_fault wsX7_fault rm_X7_fault (va_Pc [.ref (ad 0)] (xS D cI cL cZ A adK adV (xW cI cL cZ ad tx td dr dy lb pn ps ks si kb))) (va_Qi (fun (r : Int32) (u : XTx × XTd) => r = (f_X7_fault tx td dr).1 ∧ u = (f_X7_fault tx td dr).2) (fun (u : XTx × XTd) t => va_P D vwCl (xW cI cL cZ ad u.1 td u.2 dy lb pn ps ks si kb) t.heap) A) 0 0 A := by
  refine Met.ofW (cc := cX7_fault) (maxL := 1) (ret := (some .int)) (by decide) rfl ?_
  intro p e s m args below meth c s₁ B hml hv
  obtain ⟨rfl, ⟨hP, hK, hD, hE⟩, hSE, hSL⟩ := hv
  have hx := B.exec
  have hb := B.bytes
  have hr := B.returns
  have hts := atoms_spec (ws := wsX7_fault) B.pre
  have hown : s.vm.findClass RX7 = some m.cls := findClass_of_methodNamed B.named
  have hlocks := B.notSynchronized
  have hS : va_S A s.heap s.heap [] := va_S.rf
  have hl := lv_entry ([.ref (ad 0)]) (n := 1) (Nat.le_of_ble_eq_true rfl)
  rw [lg_entry_eq]
  generalize (lg_sl ([.ref (ad 0)]) ++ List.replicate (1 - (lg_sl ([.ref (ad 0)])).length) Slot.unset).toArray = ls at hl ⊢
  have hl : lv_has ls 1 [(0, .ref (ad 0))] := hl
  refine lv_aload_n hx hb dX7_fault_0 rfl (lv_at hl 0 rfl) ?_
  refine va_get (D := D) (ci := 7) (v := .ref (ad 9)) (C := RX7) (T := TX7) (N := 9) hx hb hts (by decide +kernel) hown hK hP 0 rfl rfl 2 (by decide) (hts (.fieldLink RX7 23 "SummitTime" "draft" "LSummitTime$Told;") (by decide +kernel)) (fun _ h9 => h9) rfl dX7_fault_1 ?_
  refine lv_aload_n hx hb dX7_fault_4 rfl (lv_at hl 0 rfl) ?_
  refine va_get (D := D) (ci := 7) (v := .ref (ad 3)) (C := RX7) (T := TX7) (N := 9) hx hb hts (by decide +kernel) hown hK hP 0 rfl rfl 1 (by decide) (hts (.fieldLink RX7 19 "SummitTime" "told" "LSummitTime$Told;") (by decide +kernel)) (fun _ h9 => h9) rfl dX7_fault_5 ?_
  refine va_callv (va_runV (As := [.ref (ad 3)]) (rest := []) ⟨hx, hb, hml, hown, hts⟩ (c_X6_copyFrom_d l D cI cL cZ ad A tx td dr dy lb pn ps ks si kb  ) (cwV 1 hts gX7_fault_X6_copyFrom rfl rfl rfl (by decide +kernel) ⟨Nat.le_of_ble_eq_true rfl, Nat.le_of_ble_eq_true rfl⟩) ⟨sR_fb, va_recv hK hP (ci := 6) (q0 := 9) rfl rfl, sR_at hP hK hD hE⟩ rfl rfl hl.1 rfl (lv_room (Nat.le_of_ble_eq_true rfl)) dX7_fault_8 ⟨Nat.zero_le _, Nat.zero_le _⟩) hS (fun q _ h => h) (fun q h => h) (fun T_8_1 t H locs ht hvm hT_8_1 hB hz1 hk1 hS => ?_)
  rw [ht] at hB
  have hP : va_P D vwCl (xW cI cL cZ ad tx td T_8_1 dy lb pn ps ks si kb) H := hB
  have hD : va_D A (xW cI cL cZ ad tx td T_8_1 dy lb pn ps ks si kb) := xW_D hD
  refine lv_aload_n hx hb dX7_fault_11 rfl (lv_at hl 0 rfl) ?_
  refine va_get (D := D) (ci := 7) (v := .ref (ad 1)) (C := RX7) (T := TX7) (N := 9) hx hb hts (by decide +kernel) hown hK hP 0 rfl rfl 0 (by decide) (hts (.fieldLink RX7 10 "SummitTime" "text" "LSummitTime$Text;") (by decide +kernel)) (fun _ h9 => h9) rfl dX7_fault_12 ?_
  refine lv_aload_n hx hb dX7_fault_15 rfl (lv_at hl 0 rfl) ?_
  refine va_get (D := D) (ci := 7) (v := .ref (ad 9)) (C := RX7) (T := TX7) (N := 9) hx hb hts (by decide +kernel) hown hK hP 0 rfl rfl 2 (by decide) (hts (.fieldLink RX7 23 "SummitTime" "draft" "LSummitTime$Told;") (by decide +kernel)) (fun _ h9 => h9) rfl dX7_fault_16 ?_
  refine va_calli (va_runV (As := [.ref (ad 9)]) (rest := []) ⟨hx, hb, hml, hown, hts⟩ (c_X5_readInto l D cI cL cZ ad A adK adV tx td T_8_1 dy lb pn ps ks si kb  hl0 (cpE hT_8_1 hpe)) (cwV 1 hts gX7_fault_X5_readInto rfl rfl rfl (by decide +kernel) ⟨Nat.le_of_ble_eq_true rfl, Nat.le_of_ble_eq_true rfl⟩) ⟨xS_fb, va_recv hK hP (ci := 5) (q0 := 1) rfl rfl, xS_at hP hK hD hE hSE hSL hS⟩ rfl rfl hl.1 rfl (lv_room (Nat.le_of_ble_eq_true rfl)) dX7_fault_19 ⟨Nat.zero_le _, Nat.zero_le _⟩) hS (fun q _ h => h) (fun q h => h) (fun T_199999_2 T_19_2 t H locs ht hvm hw hB hz1 hk1 hS => ?_)
  obtain ⟨hT_199999_2, hT_19_2⟩ := hw
  rw [ht] at hB
  have hP : va_P D vwCl (xW cI cL cZ ad T_19_2.1 td T_19_2.2 dy lb pn ps ks si kb) H := hB
  have hD : va_D A (xW cI cL cZ ad T_19_2.1 td T_19_2.2 dy lb pn ps ks si kb) := xW_D hD
  have hf : (f_X7_fault tx td dr) = (T_199999_2, T_19_2.1, T_19_2.2) := by rw [f_X7_fault]; (try rw [← hT_8_1]); (try rw [← hT_199999_2]); (try rw [← hT_19_2]); first | done | rfl
  have hf1 : T_199999_2 = (f_X7_fault tx td dr).1 := by rw [hf]
  have hf2 : (T_19_2.1, T_19_2.2) = (f_X7_fault tx td dr).2 := by rw [hf]
  exact W.iret (v := T_199999_2) hx hb hr (fun t ht hW => ⟨⟨T_199999_2, (T_19_2.1, T_19_2.2), rfl, ⟨hf1, hf2⟩, va_Pt ht hP⟩, hS.F ht⟩) hS.2.2 dX7_fault_22
def f_X7_top (tx : XTx) (td : XTd) (dr : XTd) (dy : XDy) (pn : (Nat × Nat)) (si : XSi) (kb : Int32) : Int32 × XTx × XTd × XTd × XDy × (Nat × Nat) × XSi × Int32 := (if (f_X5_readInto tx (f_X6_copyFrom_d td dr)).1 = (-1 : Int32) then ((f_X5_clausesRead (f_X5_empty (f_X5_readInto tx (f_X6_copyFrom_d td dr)).2.1)), (f_X5_empty (f_X5_readInto tx (f_X6_copyFrom_d td dr)).2.1), (f_X6_copyFrom_t td (f_X5_readInto tx (f_X6_copyFrom_d td dr)).2.2), (f_X5_readInto tx (f_X6_copyFrom_d td dr)).2.2, (f_X0_beginAs (f_X6_copyFrom_t td (f_X5_readInto tx (f_X6_copyFrom_d td dr)).2.2) dy), (f_X2_empty pn), (f_X4_empty si), (nI 0)) else ((-4 : Int32), (f_X5_readInto tx (f_X6_copyFrom_d td dr)).2.1, td, (f_X5_readInto tx (f_X6_copyFrom_d td dr)).2.2, dy, pn, si, kb))
abbrev rm_X7_top : Room := { frames := 8, cells := 0, slots := 0, locals := 171 }
set_option maxHeartbeats 4000000 in
set_option maxRecDepth 100000 in
theorem c_X7_top (l : Launch) (D : va_G) (cI cL cZ : ClassId) (ad : Nat → Nat) (A : Nat → Prop) (adK adV : Nat → Nat) (tx : XTx) (td : XTd) (dr : XTd) (dy : XDy) (lb : (Nat → Int32)) (pn : (Nat × Nat)) (ps : XSh) (ks : XSh) (si : XSi) (kb : Int32)  (hl0 : tx.2.1 ≤ 160) (hpe : td.2.2.2.2.2.1 ≤ 6) : Met l yX7_top wsX7_top rm_X7_top (va_Pc [.ref (ad 0)] (xS D cI cL cZ A adK adV (xW cI cL cZ ad tx td dr dy lb pn ps ks si kb))) (va_Qi (fun (r : Int32) (u : XTx × XTd × XTd × XDy × (Nat × Nat) × XSi × Int32) => r = (f_X7_top tx td dr dy pn si kb).1 ∧ u = (f_X7_top tx td dr dy pn si kb).2) (fun (u : XTx × XTd × XTd × XDy × (Nat × Nat) × XSi × Int32) t => va_P D vwCl (xW cI cL cZ ad u.1 u.2.1 u.2.2.1 u.2.2.2.1 lb u.2.2.2.2.1 ps ks u.2.2.2.2.2.1 u.2.2.2.2.2.2) t.heap) A) 0 0 A := by
  refine Met.ofW (cc := cX7_top) (maxL := 1) (ret := (some .int)) (by decide) rfl ?_
  intro p e s m args below meth c s₁ B hml hv
  obtain ⟨rfl, ⟨hP, hK, hD, hE⟩, hSE, hSL⟩ := hv
  have hx := B.exec
  have hb := B.bytes
  have hr := B.returns
  have hts := atoms_spec (ws := wsX7_top) B.pre
  have hown : s.vm.findClass RX7 = some m.cls := findClass_of_methodNamed B.named
  have hlocks := B.notSynchronized
  have hS : va_S A s.heap s.heap [] := va_S.rf
  have hl := lv_entry ([.ref (ad 0)]) (n := 1) (Nat.le_of_ble_eq_true rfl)
  rw [lg_entry_eq]
  generalize (lg_sl ([.ref (ad 0)]) ++ List.replicate (1 - (lg_sl ([.ref (ad 0)])).length) Slot.unset).toArray = ls at hl ⊢
  have hl : lv_has ls 1 [(0, .ref (ad 0))] := hl
  refine lv_aload_n hx hb dX7_top_0 rfl (lv_at hl 0 rfl) ?_
  refine va_get (D := D) (ci := 7) (v := .ref (ad 9)) (C := RX7) (T := TX7) (N := 9) hx hb hts (by decide +kernel) hown hK hP 0 rfl rfl 2 (by decide) (hts (.fieldLink RX7 23 "SummitTime" "draft" "LSummitTime$Told;") (by decide +kernel)) (fun _ h9 => h9) rfl dX7_top_1 ?_
  refine lv_aload_n hx hb dX7_top_4 rfl (lv_at hl 0 rfl) ?_
  refine va_get (D := D) (ci := 7) (v := .ref (ad 3)) (C := RX7) (T := TX7) (N := 9) hx hb hts (by decide +kernel) hown hK hP 0 rfl rfl 1 (by decide) (hts (.fieldLink RX7 19 "SummitTime" "told" "LSummitTime$Told;") (by decide +kernel)) (fun _ h9 => h9) rfl dX7_top_5 ?_
  refine va_callv (va_runV (As := [.ref (ad 3)]) (rest := []) ⟨hx, hb, hml, hown, hts⟩ (c_X6_copyFrom_d l D cI cL cZ ad A tx td dr dy lb pn ps ks si kb  ) (cwV 1 hts gX7_top_X6_copyFrom rfl rfl rfl (by decide +kernel) ⟨Nat.le_of_ble_eq_true rfl, Nat.le_of_ble_eq_true rfl⟩) ⟨sR_fb, va_recv hK hP (ci := 6) (q0 := 9) rfl rfl, sR_at hP hK hD hE⟩ rfl rfl hl.1 rfl (lv_room (Nat.le_of_ble_eq_true rfl)) dX7_top_8 ⟨Nat.zero_le _, Nat.zero_le _⟩) hS (fun q _ h => h) (fun q h => h) (fun T_8_1 t H locs ht hvm hT_8_1 hB hz1 hk1 hS => ?_)
  rw [ht] at hB
  have hP : va_P D vwCl (xW cI cL cZ ad tx td T_8_1 dy lb pn ps ks si kb) H := hB
  have hD : va_D A (xW cI cL cZ ad tx td T_8_1 dy lb pn ps ks si kb) := xW_D hD
  refine lv_aload_n hx hb dX7_top_11 rfl (lv_at hl 0 rfl) ?_
  refine va_get (D := D) (ci := 7) (v := .ref (ad 1)) (C := RX7) (T := TX7) (N := 9) hx hb hts (by decide +kernel) hown hK hP 0 rfl rfl 0 (by decide) (hts (.fieldLink RX7 10 "SummitTime" "text" "LSummitTime$Text;") (by decide +kernel)) (fun _ h9 => h9) rfl dX7_top_12 ?_
  refine lv_aload_n hx hb dX7_top_15 rfl (lv_at hl 0 rfl) ?_
  refine va_get (D := D) (ci := 7) (v := .ref (ad 9)) (C := RX7) (T := TX7) (N := 9) hx hb hts (by decide +kernel) hown hK hP 0 rfl rfl 2 (by decide) (hts (.fieldLink RX7 23 "SummitTime" "draft" "LSummitTime$Told;") (by decide +kernel)) (fun _ h9 => h9) rfl dX7_top_16 ?_
  refine va_calli (va_runV (As := [.ref (ad 9)]) (rest := []) ⟨hx, hb, hml, hown, hts⟩ (c_X5_readInto l D cI cL cZ ad A adK adV tx td T_8_1 dy lb pn ps ks si kb  hl0 (cpE hT_8_1 hpe)) (cwV 1 hts gX7_top_X5_readInto rfl rfl rfl (by decide +kernel) ⟨Nat.le_of_ble_eq_true rfl, Nat.le_of_ble_eq_true rfl⟩) ⟨xS_fb, va_recv hK hP (ci := 5) (q0 := 1) rfl rfl, xS_at hP hK hD hE hSE hSL hS⟩ rfl rfl hl.1 rfl (lv_room (Nat.le_of_ble_eq_true rfl)) dX7_top_19 ⟨Nat.zero_le _, Nat.zero_le _⟩) hS (fun q _ h => h) (fun q h => h) (fun T_199999_2 T_19_2 t H locs ht hvm hw hB hz1 hk1 hS => ?_)
  obtain ⟨hT_199999_2, hT_19_2⟩ := hw
  rw [ht] at hB
  have hP : va_P D vwCl (xW cI cL cZ ad T_19_2.1 td T_19_2.2 dy lb pn ps ks si kb) H := hB
  have hD : va_D A (xW cI cL cZ ad T_19_2.1 td T_19_2.2 dy lb pn ps ks si kb) := xW_D hD
  refine lv_iconst (v := (-1)) hx hb dX7_top_22 rfl ?_
  refine lv_icmp_eq (tgt := 29) hx hb dX7_top_23 (by decide) (fun c_1 => ?_) (fun c_1 => ?_)
  · refine lv_aload_n hx hb dX7_top_29 rfl (lv_at hl 0 rfl) ?_
    refine va_get (D := D) (ci := 7) (v := .ref (ad 3)) (C := RX7) (T := TX7) (N := 9) hx hb hts (by decide +kernel) hown hK hP 0 rfl rfl 1 (by decide) (hts (.fieldLink RX7 19 "SummitTime" "told" "LSummitTime$Told;") (by decide +kernel)) (fun _ h9 => h9) rfl dX7_top_30 ?_
    refine lv_aload_n hx hb dX7_top_33 rfl (lv_at hl 0 rfl) ?_
    refine va_get (D := D) (ci := 7) (v := .ref (ad 9)) (C := RX7) (T := TX7) (N := 9) hx hb hts (by decide +kernel) hown hK hP 0 rfl rfl 2 (by decide) (hts (.fieldLink RX7 23 "SummitTime" "draft" "LSummitTime$Told;") (by decide +kernel)) (fun _ h9 => h9) rfl dX7_top_34 ?_
    refine va_callv (va_runV (As := [.ref (ad 9)]) (rest := []) ⟨hx, hb, hml, hown, hts⟩ (c_X6_copyFrom_t l D cI cL cZ ad A T_19_2.1 td T_19_2.2 dy lb pn ps ks si kb  ) (cwV 1 hts gX7_top_X6_copyFrom rfl rfl rfl (by decide +kernel) ⟨Nat.le_of_ble_eq_true rfl, Nat.le_of_ble_eq_true rfl⟩) ⟨sR_fb, va_recv hK hP (ci := 6) (q0 := 3) rfl rfl, sR_at hP hK hD hE⟩ rfl rfl hl.1 rfl (lv_room (Nat.le_of_ble_eq_true rfl)) dX7_top_37 ⟨Nat.zero_le _, Nat.zero_le _⟩) hS (fun q _ h => h) (fun q h => h) (fun T_37_3 t H locs ht hvm hT_37_3 hB hz1 hk1 hS => ?_)
    rw [ht] at hB
    have hP : va_P D vwCl (xW cI cL cZ ad T_19_2.1 T_37_3 T_19_2.2 dy lb pn ps ks si kb) H := hB
    have hD : va_D A (xW cI cL cZ ad T_19_2.1 T_37_3 T_19_2.2 dy lb pn ps ks si kb) := xW_D hD
    refine lv_aload_n hx hb dX7_top_40 rfl (lv_at hl 0 rfl) ?_
    refine va_get (D := D) (ci := 7) (v := .ref (ad 15)) (C := RX7) (T := TX7) (N := 9) hx hb hts (by decide +kernel) hown hK hP 0 rfl rfl 3 (by decide) (hts (.fieldLink RX7 29 "SummitTime" "day" "LSummitTime$Day;") (by decide +kernel)) (fun _ h9 => h9) rfl dX7_top_41 ?_
    refine lv_aload_n hx hb dX7_top_44 rfl (lv_at hl 0 rfl) ?_
    refine va_get (D := D) (ci := 7) (v := .ref (ad 3)) (C := RX7) (T := TX7) (N := 9) hx hb hts (by decide +kernel) hown hK hP 0 rfl rfl 1 (by decide) (hts (.fieldLink RX7 19 "SummitTime" "told" "LSummitTime$Told;") (by decide +kernel)) (fun _ h9 => h9) rfl dX7_top_45 ?_
    refine va_callv (va_runV (As := [.ref (ad 3)]) (rest := []) ⟨hx, hb, hml, hown, hts⟩ (c_X0_beginAs l D cI cL cZ ad A T_19_2.1 T_37_3 T_19_2.2 dy lb pn ps ks si kb  ) (cwV 1 hts gX7_top_X0_beginAs rfl rfl rfl (by decide +kernel) ⟨Nat.le_of_ble_eq_true rfl, Nat.le_of_ble_eq_true rfl⟩) ⟨sR_fb, va_recv hK hP (ci := 0) (q0 := 15) rfl rfl, sR_at hP hK hD hE⟩ rfl rfl hl.1 rfl (lv_room (Nat.le_of_ble_eq_true rfl)) dX7_top_48 ⟨Nat.zero_le _, Nat.zero_le _⟩) hS (fun q _ h => h) (fun q h => h) (fun T_48_4 t H locs ht hvm hT_48_4 hB hz1 hk1 hS => ?_)
    rw [ht] at hB
    have hP : va_P D vwCl (xW cI cL cZ ad T_19_2.1 T_37_3 T_19_2.2 T_48_4 lb pn ps ks si kb) H := hB
    have hD : va_D A (xW cI cL cZ ad T_19_2.1 T_37_3 T_19_2.2 T_48_4 lb pn ps ks si kb) := xW_D hD
    refine lv_aload_n hx hb dX7_top_51 rfl (lv_at hl 0 rfl) ?_
    refine va_get (D := D) (ci := 7) (v := .ref (ad 20)) (C := RX7) (T := TX7) (N := 9) hx hb hts (by decide +kernel) hown hK hP 0 rfl rfl 5 (by decide) (hts (.fieldLink RX7 45 "SummitTime" "past" "LSummitTime$Past;") (by decide +kernel)) (fun _ h9 => h9) rfl dX7_top_52 ?_
    refine va_callv (va_runV (As := []) (rest := []) ⟨hx, hb, hml, hown, hts⟩ (c_X2_empty l D cI cL cZ ad A T_19_2.1 T_37_3 T_19_2.2 T_48_4 lb pn ps ks si kb  ) (cwV 0 hts gX7_top_X2_empty rfl rfl rfl (by decide +kernel) ⟨Nat.le_of_ble_eq_true rfl, Nat.le_of_ble_eq_true rfl⟩) ⟨sR_fb, va_recv hK hP (ci := 2) (q0 := 20) rfl rfl, sR_at hP hK hD hE⟩ rfl rfl hl.1 rfl (lv_room (Nat.le_of_ble_eq_true rfl)) dX7_top_55 ⟨Nat.zero_le _, Nat.zero_le _⟩) hS (fun q _ h => h) (fun q h => h) (fun T_55_5 t H locs ht hvm hT_55_5 hB hz1 hk1 hS => ?_)
    rw [ht] at hB
    have hP : va_P D vwCl (xW cI cL cZ ad T_19_2.1 T_37_3 T_19_2.2 T_48_4 lb T_55_5 ps ks si kb) H := hB
    have hD : va_D A (xW cI cL cZ ad T_19_2.1 T_37_3 T_19_2.2 T_48_4 lb T_55_5 ps ks si kb) := xW_D hD
    refine lv_aload_n hx hb dX7_top_58 rfl (lv_at hl 0 rfl) ?_
    refine va_get (D := D) (ci := 7) (v := .ref (ad 31)) (C := RX7) (T := TX7) (N := 9) hx hb hts (by decide +kernel) hown hK hP 0 rfl rfl 7 (by decide) (hts (.fieldLink RX7 61 "SummitTime" "sightings" "LSummitTime$Sightings;") (by decide +kernel)) (fun _ h9 => h9) rfl dX7_top_59 ?_
    refine va_callv (va_runV (As := []) (rest := []) ⟨hx, hb, hml, hown, hts⟩ (c_X4_empty l D cI cL cZ ad A T_19_2.1 T_37_3 T_19_2.2 T_48_4 lb T_55_5 ps ks si kb  ) (cwV 0 hts gX7_top_X4_empty rfl rfl rfl (by decide +kernel) ⟨Nat.le_of_ble_eq_true rfl, Nat.le_of_ble_eq_true rfl⟩) ⟨sR_fb, va_recv hK hP (ci := 4) (q0 := 31) rfl rfl, sR_at hP hK hD hE⟩ rfl rfl hl.1 rfl (lv_room (Nat.le_of_ble_eq_true rfl)) dX7_top_62 ⟨Nat.zero_le _, Nat.zero_le _⟩) hS (fun q _ h => h) (fun q h => h) (fun T_62_6 t H locs ht hvm hT_62_6 hB hz1 hk1 hS => ?_)
    rw [ht] at hB
    have hP : va_P D vwCl (xW cI cL cZ ad T_19_2.1 T_37_3 T_19_2.2 T_48_4 lb T_55_5 ps ks T_62_6 kb) H := hB
    have hD : va_D A (xW cI cL cZ ad T_19_2.1 T_37_3 T_19_2.2 T_48_4 lb T_55_5 ps ks T_62_6 kb) := xW_D hD
    refine lv_aload_n hx hb dX7_top_65 rfl (lv_at hl 0 rfl) ?_
    refine lv_iconst (v := nI 0) hx hb dX7_top_66 rfl ?_
    refine va_put (D := D) (ci := 7) (v := .int (nI 0)) (ty := .int) (C := RX7) (T := TX7) (N := 9) hx hb hts (by decide +kernel) tyX7 tyX7_ok nmX7 hown hK hP hD hS 0 rfl rfl 8 (by decide) (hts (.fieldLink RX7 65 "SummitTime" "keptBits" "I") (by decide +kernel)) (fun _ h9 => h9) rfl (by decide +kernel) rfl rfl (Nat.le_of_ble_eq_true rfl) dX7_top_67 (fun H locs hP hD hS => ?_)
    have hP : va_P D vwCl (xW cI cL cZ ad T_19_2.1 T_37_3 T_19_2.2 T_48_4 lb T_55_5 ps ks T_62_6 (nI 0)) H := hP
    have hD : va_D A (xW cI cL cZ ad T_19_2.1 T_37_3 T_19_2.2 T_48_4 lb T_55_5 ps ks T_62_6 (nI 0)) := hD
    refine lv_aload_n hx hb dX7_top_70 rfl (lv_at hl 0 rfl) ?_
    refine va_get (D := D) (ci := 7) (v := .ref (ad 1)) (C := RX7) (T := TX7) (N := 9) hx hb hts (by decide +kernel) hown hK hP 0 rfl rfl 0 (by decide) (hts (.fieldLink RX7 10 "SummitTime" "text" "LSummitTime$Text;") (by decide +kernel)) (fun _ h9 => h9) rfl dX7_top_71 ?_
    refine va_callv (va_runV (As := []) (rest := []) ⟨hx, hb, hml, hown, hts⟩ (c_X5_empty l D cI cL cZ ad A T_19_2.1 T_37_3 T_19_2.2 T_48_4 lb T_55_5 ps ks T_62_6 (nI 0)  ) (cwV 0 hts gX7_top_X5_empty rfl rfl rfl (by decide +kernel) ⟨Nat.le_of_ble_eq_true rfl, Nat.le_of_ble_eq_true rfl⟩) ⟨sR_fb, va_recv hK hP (ci := 5) (q0 := 1) rfl rfl, sR_at hP hK hD hE⟩ rfl rfl hl.1 rfl (lv_room (Nat.le_of_ble_eq_true rfl)) dX7_top_74 ⟨Nat.zero_le _, Nat.zero_le _⟩) hS (fun q _ h => h) (fun q h => h) (fun T_74_7 t H locs ht hvm hT_74_7 hB hz1 hk1 hS => ?_)
    rw [ht] at hB
    have hP : va_P D vwCl (xW cI cL cZ ad T_74_7 T_37_3 T_19_2.2 T_48_4 lb T_55_5 ps ks T_62_6 (nI 0)) H := hB
    have hD : va_D A (xW cI cL cZ ad T_74_7 T_37_3 T_19_2.2 T_48_4 lb T_55_5 ps ks T_62_6 (nI 0)) := xW_D hD
    refine lv_aload_n hx hb dX7_top_77 rfl (lv_at hl 0 rfl) ?_
    refine va_get (D := D) (ci := 7) (v := .ref (ad 1)) (C := RX7) (T := TX7) (N := 9) hx hb hts (by decide +kernel) hown hK hP 0 rfl rfl 0 (by decide) (hts (.fieldLink RX7 10 "SummitTime" "text" "LSummitTime$Text;") (by decide +kernel)) (fun _ h9 => h9) rfl dX7_top_78 ?_
    refine vp_callSi (va_Run.run (va_runV (As := []) (rest := []) ⟨hx, hb, hml, hown, hts⟩ (c_X5_clausesRead l D cI cL cZ ad A T_74_7 T_37_3 T_19_2.2 T_48_4 lb T_55_5 ps ks T_62_6 (nI 0)  ) (cwV 0 hts gX7_top_X5_clausesRead rfl rfl rfl (by decide +kernel) ⟨Nat.le_of_ble_eq_true rfl, Nat.le_of_ble_eq_true rfl⟩) ⟨sR_fb, va_recv hK hP (ci := 5) (q0 := 1) rfl rfl, sR_at hP hK hD hE⟩ rfl rfl hl.1 rfl (lv_room (Nat.le_of_ble_eq_true rfl)) dX7_top_81 ⟨Nat.zero_le _, Nat.zero_le _⟩)) (fun r hr => ?_)
    subst hr
    have hf : (f_X7_top tx td dr dy pn si kb) = ((f_X5_clausesRead T_74_7), T_74_7, T_37_3, T_19_2.2, T_48_4, T_55_5, T_62_6, (nI 0)) := by rw [f_X7_top]; (try rw [← hT_8_1]); (try rw [← hT_199999_2]); (try rw [← hT_19_2]); (try rw [← hT_37_3]); (try rw [← hT_48_4]); (try rw [← hT_55_5]); (try rw [← hT_62_6]); (try rw [← hT_74_7]); first | done | rw [if_pos c_1]
    have hf1 : (f_X5_clausesRead T_74_7) = (f_X7_top tx td dr dy pn si kb).1 := by rw [hf]
    have hf2 : (T_74_7, T_37_3, T_19_2.2, T_48_4, T_55_5, T_62_6, (nI 0)) = (f_X7_top tx td dr dy pn si kb).2 := by rw [hf]
    exact W.iret (v := (f_X5_clausesRead T_74_7)) hx hb hr (fun t ht hW => ⟨⟨(f_X5_clausesRead T_74_7), (T_74_7, T_37_3, T_19_2.2, T_48_4, T_55_5, T_62_6, (nI 0)), rfl, ⟨hf1, hf2⟩, va_Pt ht hP⟩, hS.F ht⟩) hS.2.2 dX7_top_84
  · refine lv_bipush (v := (-4)) hx hb dX7_top_26 rfl ?_
    have hf : (f_X7_top tx td dr dy pn si kb) = ((-4 : Int32), T_19_2.1, td, T_19_2.2, dy, pn, si, kb) := by rw [f_X7_top]; (try rw [← hT_8_1]); (try rw [← hT_199999_2]); (try rw [← hT_19_2]); first | done | rw [if_neg c_1]
    have hf1 : (-4 : Int32) = (f_X7_top tx td dr dy pn si kb).1 := by rw [hf]
    have hf2 : (T_19_2.1, td, T_19_2.2, dy, pn, si, kb) = (f_X7_top tx td dr dy pn si kb).2 := by rw [hf]
    exact W.iret (v := (-4 : Int32)) hx hb hr (fun t ht hW => ⟨⟨(-4 : Int32), (T_19_2.1, td, T_19_2.2, dy, pn, si, kb), rfl, ⟨hf1, hf2⟩, va_Pt ht hP⟩, hS.F ht⟩) hS.2.2 dX7_top_28
