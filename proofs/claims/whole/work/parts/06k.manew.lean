def f_X8_fault (to : (Nat → Int32)) (mt : MTx) (rd : (Nat → Int32)) : Int32 × MTx × (Nat → Int32) := ((if (f_X8_readText to mt rd).1 = 0 then nI (f_X8_readText to mt rd).2.1.2.2.2.2.2.1 else (-1 : Int32)), (f_X8_readText to mt rd).2.1, (f_X8_readText to mt rd).2.2)
abbrev rm_X8_fault : Room := { frames := 6, cells := 0, slots := 0, locals := 135 }
set_option maxHeartbeats 4000000 in
set_option maxRecDepth 100000 in
theorem c_X8_fault (l : Launch) (D : va_G) (cI cL cZ : ClassId) (ad : Nat → Nat) (A : Nat → Prop) (to : (Nat → Int32)) (st : (Nat → Int32)) (mt : MTx) (rd : (Nat → Int32)) (un : MUn) (kp : MKp) (rw : MKp) (se : MUn)  (hl0 : mt.2.1 ≤ 160) (hb0 : mt.2.2.2.2.2.1 ≤ 160) (hm : to 0 = nI (mN to)) (hm6 : mN to ≤ 6) : Met l yX8_fault wsX8_fault rm_X8_fault (va_Pc [.ref (ad 0)] (sR D cI cL cZ A (mW cI cL cZ ad to st mt rd un kp rw se))) (va_Qi (fun (r : Int32) (u : MTx × (Nat → Int32)) => r = (f_X8_fault to mt rd).1 ∧ u = (f_X8_fault to mt rd).2) (fun (u : MTx × (Nat → Int32)) t => va_P D vwCl (mW cI cL cZ ad to st u.1 u.2 un kp rw se) t.heap) A) 0 0 A := by
  refine Met.ofW (cc := cX8_fault) (maxL := 1) (ret := (some .int)) (by decide) rfl ?_
  intro p e s m args below meth c s₁ B hml hv
  obtain ⟨rfl, hP, hK, hD, hE⟩ := hv
  have hx := B.exec
  have hb := B.bytes
  have hr := B.returns
  have hts := atoms_spec (ws := wsX8_fault) B.pre
  have hown : s.vm.findClass RX8 = some m.cls := findClass_of_methodNamed B.named
  have hlocks := B.notSynchronized
  have hS : va_S A s.heap s.heap [] := va_S.rf
  have hl := lv_entry ([.ref (ad 0)]) (n := 1) (Nat.le_of_ble_eq_true rfl)
  rw [lg_entry_eq]
  generalize (lg_sl ([.ref (ad 0)]) ++ List.replicate (1 - (lg_sl ([.ref (ad 0)])).length) Slot.unset).toArray = ls at hl ⊢
  have hl : lv_has ls 1 [(0, .ref (ad 0))] := hl
  refine lv_aload_n hx hb dX8_fault_0 rfl (lv_at hl 0 rfl) ?_
  refine va_calli (va_runV (As := []) (rest := []) ⟨hx, hb, hml, hown, hts⟩ (c_X8_readText l D cI cL cZ ad A to st mt rd un kp rw se  (by first | assumption | omega) (by first | assumption | omega) (by first | assumption | omega) (by first | assumption | omega)) (cwV 0 hts gX8_fault_X8_readText rfl rfl rfl (by decide +kernel) ⟨Nat.le_of_ble_eq_true rfl, Nat.le_of_ble_eq_true rfl⟩) ⟨sR_fb, va_recv hK hP (ci := 8) (q0 := 0) rfl rfl, sR_at hP hK hD hE⟩ rfl rfl hl.1 rfl (lv_room (Nat.le_of_ble_eq_true rfl)) dX8_fault_1 ⟨Nat.zero_le _, Nat.zero_le _⟩) hS (fun q _ h => h) (fun q h => h) (fun T_19999_1 T_1_1 t H locs ht hvm hw hB hz1 hk1 hS => ?_)
  obtain ⟨hT_19999_1, hT_1_1⟩ := hw
  rw [ht] at hB
  have hP : va_P D vwCl (mW cI cL cZ ad to st T_1_1.1 T_1_1.2 un kp rw se) H := hB
  have hD : va_D A (mW cI cL cZ ad to st T_1_1.1 T_1_1.2 un kp rw se) := mW_D hD
  refine mv_phi (v := (if T_19999_1 = 0 then nI T_1_1.1.2.2.2.2.2.1 else (-1 : Int32))) (pcj := 15) (ls := ls) (rest' := []) ?_ (fun J_1 => ?_)
  · have hf : (f_X8_fault to mt rd) = ((if T_19999_1 = 0 then nI T_1_1.1.2.2.2.2.2.1 else (-1 : Int32)), T_1_1.1, T_1_1.2) := by rw [f_X8_fault]; (try rw [← hT_19999_1]); (try rw [← hT_1_1]); first | done | rfl
    have hf1 : (if T_19999_1 = 0 then nI T_1_1.1.2.2.2.2.2.1 else (-1 : Int32)) = (f_X8_fault to mt rd).1 := by rw [hf]
    have hf2 : (T_1_1.1, T_1_1.2) = (f_X8_fault to mt rd).2 := by rw [hf]
    exact W.iret (v := (if T_19999_1 = 0 then nI T_1_1.1.2.2.2.2.2.1 else (-1 : Int32))) hx hb hr (fun t ht hW => ⟨⟨(if T_19999_1 = 0 then nI T_1_1.1.2.2.2.2.2.1 else (-1 : Int32)), (T_1_1.1, T_1_1.2), rfl, ⟨hf1, hf2⟩, va_Pt ht hP⟩, hS.F ht⟩) hS.2.2 dX8_fault_15
  · refine lv_if_eq (tgt := 11) hx hb dX8_fault_4 (by decide) (fun c_2 => ?_) (fun c_2 => ?_)
    · refine lv_aload_n hx hb dX8_fault_11 rfl (lv_at hl 0 rfl) ?_
      refine va_get (D := D) (ci := 8) (v := .int (nI T_1_1.1.2.2.2.2.2.1)) (C := RX8) (T := TX8) (N := 18) hx hb hts (by decide +kernel) hown hK hP 0 rfl rfl 7 (by decide) (hts (.fieldLink RX8 61 "SummitTimeModel" "begins" "I") (by decide +kernel)) (fun _ h9 => h9) rfl dX8_fault_12 ?_
      exact J_1 _ (by rw [if_pos c_2])
    · refine lv_iconst (v := (-1)) hx hb dX8_fault_7 rfl ?_
      refine lv_goto (tgt := 15) hx hb dX8_fault_8 (by decide) ?_
      exact J_1 _ (by rw [if_neg c_2])
def L_X8_anew_2 (to : (Nat → Int32)) : Nat → Nat → (Nat → Int32) → (Nat → Int32)
  | 0, _, wst0_2 => wst0_2
  | n_2 + 1, k_2, wst0_2 => (L_X8_anew_2 to n_2 (k_2 + 1) (upd wst0_2 k_2 (to (25 + k_2))))
def L_X8_anew_31  : Nat → Nat → (Nat → Int32) → (Nat → Int32)
  | 0, _, wst0_31 => wst0_31
  | n_31 + 1, k_31, wst0_31 => (L_X8_anew_31 n_31 (k_31 + 1) (upd (upd wst0_31 (60 + k_31) (-1 : Int32)) (66 + k_31) (nI 0)))
def f_X8_anew (to : (Nat → Int32)) (st : (Nat → Int32)) : (Nat → Int32) := (upd (L_X8_anew_31 6 0 (L_X8_anew_2 to 60 0 st)) 72 (nI 0))
abbrev rm_X8_anew : Room := { frames := 0, cells := 0, slots := 0, locals := 0 }
set_option maxHeartbeats 4000000 in
set_option maxRecDepth 100000 in
theorem c_X8_anew (l : Launch) (D : va_G) (cI cL cZ : ClassId) (ad : Nat → Nat) (A : Nat → Prop) (to : (Nat → Int32)) (st : (Nat → Int32)) (mt : MTx) (rd : (Nat → Int32)) (un : MUn) (kp : MKp) (rw : MKp) (se : MUn)   : Met l yX8_anew wsX8_anew rm_X8_anew (va_Pc [.ref (ad 0)] (sR D cI cL cZ A (mW cI cL cZ ad to st mt rd un kp rw se))) (va_Qv (fun (u : (Nat → Int32)) => u = (f_X8_anew to st)) (fun (u : (Nat → Int32)) t => va_P D vwCl (mW cI cL cZ ad to u mt rd un kp rw se) t.heap) A) 0 0 A := by
  refine Met.ofW (cc := cX8_anew) (maxL := 2) (ret := none) (by decide) rfl ?_
  intro p e s m args below meth c s₁ B hml hv
  obtain ⟨rfl, hP, hK, hD, hE⟩ := hv
  have hx := B.exec
  have hb := B.bytes
  have hr := B.returns
  have hts := atoms_spec (ws := wsX8_anew) B.pre
  have hown : s.vm.findClass RX8 = some m.cls := findClass_of_methodNamed B.named
  have hlocks := B.notSynchronized
  have hS : va_S A s.heap s.heap [] := va_S.rf
  have hl := lv_entry ([.ref (ad 0)]) (n := 2) (Nat.le_of_ble_eq_true rfl)
  rw [lg_entry_eq]
  generalize (lg_sl ([.ref (ad 0)]) ++ List.replicate (2 - (lg_sl ([.ref (ad 0)])).length) Slot.unset).toArray = ls at hl ⊢
  have hl : lv_has ls 2 [(0, .ref (ad 0))] := hl
  obtain ⟨Q, hQe⟩ : ∃ Q, Q = MQ below (va_Qv (fun (u : (Nat → Int32)) => u = (f_X8_anew to st)) (fun (u : (Nat → Int32)) t => va_P D vwCl (mW cI cL cZ ad to u mt rd un kp rw se) t.heap) A) ([.ref (ad 0)] : List Value).toArray s 0 0 A := ⟨_, rfl⟩
  show W p l e (headSpec wsX8_anew rm_X8_anew).room s m ([.ref (ad 0)] : List Value).toArray below meth c s.heap [] 0 0 (MQ below (va_Qv (fun (u : (Nat → Int32)) => u = (f_X8_anew to st)) (fun (u : (Nat → Int32)) t => va_P D vwCl (mW cI cL cZ ad to u mt rd un kp rw se) t.heap) A) ([.ref (ad 0)] : List Value).toArray s 0 0 A) (F0 m 0 ls [])
  rw [← hQe]
  refine lv_iconst (v := nI 0) hx hb dX8_anew_0 rfl ?_
  refine lv_istore_n (lv' := [(1, .int (nI 0)), (0, .ref (ad 0))]) hx hb dX8_anew_1 rfl hl (by decide) rfl (fun ls hl => ?_)
  obtain ⟨T_2_1, hT_2_1⟩ : ∃ z, z = (L_X8_anew_2 to 60 0 st) := ⟨_, rfl⟩
  have hexit_2 : ∀ (H : Heap) (locs : List Loc) (ls : Array Slot), va_P D vwCl (mW cI cL cZ ad to T_2_1 mt rd un kp rw se) H → va_S A s.heap H locs → lv_has ls 2 [(0, .ref (ad 0))] → W p l e (headSpec wsX8_anew rm_X8_anew).room s m ([.ref (ad 0)] : List Value).toArray below meth c H locs 0 0 Q (F0 m 29 ls []) := by
    intro H locs ls hP hS hl
    have hD : va_D A (mW cI cL cZ ad to T_2_1 mt rd un kp rw se) := mW_D hD
    refine lv_iconst (v := nI 0) hx hb dX8_anew_29 rfl ?_
    refine lv_istore_n (lv' := [(1, .int (nI 0)), (0, .ref (ad 0))]) hx hb dX8_anew_30 rfl hl (by decide) rfl (fun ls hl => ?_)
    obtain ⟨T_31_2, hT_31_2⟩ : ∃ z, z = (L_X8_anew_31 6 0 T_2_1) := ⟨_, rfl⟩
    have hexit_31 : ∀ (H : Heap) (locs : List Loc) (ls : Array Slot), va_P D vwCl (mW cI cL cZ ad to T_31_2 mt rd un kp rw se) H → va_S A s.heap H locs → lv_has ls 2 [(0, .ref (ad 0))] → W p l e (headSpec wsX8_anew rm_X8_anew).room s m ([.ref (ad 0)] : List Value).toArray below meth c H locs 0 0 Q (F0 m 63 ls []) := by
      intro H locs ls hP hS hl
      have hD : va_D A (mW cI cL cZ ad to T_31_2 mt rd un kp rw se) := mW_D hD
      refine lv_aload_n hx hb dX8_anew_63 rfl (lv_at hl 0 rfl) ?_
      refine va_get (D := D) (ci := 8) (v := .ref (ad 2)) (C := RX8) (T := TX8) (N := 18) hx hb hts (by decide +kernel) hown hK hP 0 rfl rfl 1 (by decide) (hts (.fieldLink RX8 13 "SummitTimeModel" "st" "[I") (by decide +kernel)) (fun _ h9 => h9) rfl dX8_anew_64 ?_
      refine lv_bipush (v := nI 72) hx hb dX8_anew_67 rfl ?_
      refine lv_iconst (v := nI 0) hx hb dX8_anew_69 rfl ?_
      refine mv_iast (f := T_31_2) hx hb hK hP hD hS 2 0 rfl rfl (by decide) (by decide) dX8_anew_70 (fun H locs hP hD hS => ?_)
      have hP : va_P D vwCl (mW cI cL cZ ad to (upd T_31_2 72 (nI 0)) mt rd un kp rw se) H := hP
      have hD : va_D A (mW cI cL cZ ad to (upd T_31_2 72 (nI 0)) mt rd un kp rw se) := hD
      subst hQe
      have hf : (f_X8_anew to st) = (upd T_31_2 72 (nI 0)) := by rw [f_X8_anew]; (try rw [← hT_2_1]); (try rw [← hT_31_2]); first | done | rfl
      exact W.vret hx hb hr (fun t ht hW => ⟨⟨(upd T_31_2 72 (nI 0)), rfl, hf.symm, va_Pt ht hP⟩, hS.F ht⟩) hS.2.2 dX8_anew_71
    have loop_31 : ∀ (n_31 : Nat) (k_31 : Nat) (wst0_31 : Nat → Int32), (k_31 + n_31 = 6) → L_X8_anew_31 n_31 k_31 wst0_31 = T_31_2 → ∀ (H : Heap) (locs : List Loc) (ls : Array Slot), va_P D vwCl (mW cI cL cZ ad to wst0_31 mt rd un kp rw se) H → va_S A s.heap H locs → lv_has ls 2 [(1, .int (nI k_31)), (0, .ref (ad 0))] → W p l e (headSpec wsX8_anew rm_X8_anew).room s m ([.ref (ad 0)] : List Value).toArray below meth c H locs 0 0 Q (F0 m 31 ls []) := by
      intro n_31
      induction n_31 with
      | zero =>
        intro k_31 wst0_31 hk_31 hL_31 H locs ls hP hS hl
        have hD : va_D A (mW cI cL cZ ad to wst0_31 mt rd un kp rw se) := mW_D hD
        refine lv_iload_n hx hb dX8_anew_31 rfl (lv_at hl 0 rfl) ?_
        refine lv_bipush (v := nI 6) hx hb dX8_anew_32 rfl ?_
        refine mv_icmp_ge (tgt := 63) hx hb dX8_anew_34 (by decide) (by omega) (by decide) (fun c_4 => ?_) (fun c_4 => (by omega : False).elim)
        have e9 : T_31_2 = wst0_31 := by rw [← hL_31, L_X8_anew_31]
        have hq := hexit_31
        rw [e9] at hq
        exact hq _ _ ls  hP hS (lv_sub hl [1] rfl)
      | succ n_31 ih_31 =>
        intro k_31 wst0_31 hk_31 hL_31 H locs ls hP hS hl
        have hD : va_D A (mW cI cL cZ ad to wst0_31 mt rd un kp rw se) := mW_D hD
        refine lv_iload_n hx hb dX8_anew_31 rfl (lv_at hl 0 rfl) ?_
        refine lv_bipush (v := nI 6) hx hb dX8_anew_32 rfl ?_
        refine mv_icmp_ge (tgt := 63) hx hb dX8_anew_34 (by decide) (by omega) (by decide) (fun c_3 => (by omega : False).elim) (fun c_3 => ?_)
        refine lv_aload_n hx hb dX8_anew_37 rfl (lv_at hl 1 rfl) ?_
        refine va_get (D := D) (ci := 8) (v := .ref (ad 2)) (C := RX8) (T := TX8) (N := 18) hx hb hts (by decide +kernel) hown hK hP 0 rfl rfl 1 (by decide) (hts (.fieldLink RX8 13 "SummitTimeModel" "st" "[I") (by decide +kernel)) (fun _ h9 => h9) rfl dX8_anew_38 ?_
        refine lv_bipush (v := nI 60) hx hb dX8_anew_41 rfl ?_
        refine lv_iload_n hx hb dX8_anew_43 rfl (lv_at hl 0 rfl) ?_
        refine mv_iadd hx hb dX8_anew_44 ?_
        refine lv_iconst (v := (-1)) hx hb dX8_anew_45 rfl ?_
        refine mv_iast (f := wst0_31) hx hb hK hP hD hS 2 0 rfl rfl (by omega) (by decide) dX8_anew_46 (fun H locs hP hD hS => ?_)
        have hP : va_P D vwCl (mW cI cL cZ ad to (upd wst0_31 (60 + k_31) (-1 : Int32)) mt rd un kp rw se) H := hP
        have hD : va_D A (mW cI cL cZ ad to (upd wst0_31 (60 + k_31) (-1 : Int32)) mt rd un kp rw se) := hD
        refine lv_aload_n hx hb dX8_anew_47 rfl (lv_at hl 1 rfl) ?_
        refine va_get (D := D) (ci := 8) (v := .ref (ad 2)) (C := RX8) (T := TX8) (N := 18) hx hb hts (by decide +kernel) hown hK hP 0 rfl rfl 1 (by decide) (hts (.fieldLink RX8 13 "SummitTimeModel" "st" "[I") (by decide +kernel)) (fun _ h9 => h9) rfl dX8_anew_48 ?_
        refine lv_bipush (v := nI 66) hx hb dX8_anew_51 rfl ?_
        refine lv_iload_n hx hb dX8_anew_53 rfl (lv_at hl 0 rfl) ?_
        refine mv_iadd hx hb dX8_anew_54 ?_
        refine lv_iconst (v := nI 0) hx hb dX8_anew_55 rfl ?_
        refine mv_iast (f := (upd wst0_31 (60 + k_31) (-1 : Int32))) hx hb hK hP hD hS 2 0 rfl rfl (by omega) (by decide) dX8_anew_56 (fun H locs hP hD hS => ?_)
        have hP : va_P D vwCl (mW cI cL cZ ad to (upd (upd wst0_31 (60 + k_31) (-1 : Int32)) (66 + k_31) (nI 0)) mt rd un kp rw se) H := hP
        have hD : va_D A (mW cI cL cZ ad to (upd (upd wst0_31 (60 + k_31) (-1 : Int32)) (66 + k_31) (nI 0)) mt rd un kp rw se) := hD
        refine mv_iinc (y := k_31 + 1) (lv' := [(1, .int (nI (k_31 + 1))), (0, .ref (ad 0))]) hx hb dX8_anew_57 hl (k := 0) rfl (nI_p1 _) (by decide) rfl (fun ls hl => ?_)
        refine lv_goto (tgt := 31) hx hb dX8_anew_60 (by decide) ?_
        exact ih_31 (k_31 + 1) (upd (upd wst0_31 (60 + k_31) (-1 : Int32)) (66 + k_31) (nI 0)) (by omega) (by have e9 := hL_31; rw [L_X8_anew_31] at e9; exact e9) _ _ ls hP hS (lv_sub hl [0, 1] rfl)
    exact loop_31 6 0 T_2_1 (by omega) hT_31_2.symm _ _ ls hP hS (lv_sub hl [0, 1] rfl)
  have loop_2 : ∀ (n_2 : Nat) (k_2 : Nat) (wst0_2 : Nat → Int32), (k_2 + n_2 = 60) → L_X8_anew_2 to n_2 k_2 wst0_2 = T_2_1 → ∀ (H : Heap) (locs : List Loc) (ls : Array Slot), va_P D vwCl (mW cI cL cZ ad to wst0_2 mt rd un kp rw se) H → va_S A s.heap H locs → lv_has ls 2 [(1, .int (nI k_2)), (0, .ref (ad 0))] → W p l e (headSpec wsX8_anew rm_X8_anew).room s m ([.ref (ad 0)] : List Value).toArray below meth c H locs 0 0 Q (F0 m 2 ls []) := by
    intro n_2
    induction n_2 with
    | zero =>
      intro k_2 wst0_2 hk_2 hL_2 H locs ls hP hS hl
      have hD : va_D A (mW cI cL cZ ad to wst0_2 mt rd un kp rw se) := mW_D hD
      refine lv_iload_n hx hb dX8_anew_2 rfl (lv_at hl 0 rfl) ?_
      refine lv_bipush (v := nI 60) hx hb dX8_anew_3 rfl ?_
      refine mv_icmp_ge (tgt := 29) hx hb dX8_anew_5 (by decide) (by omega) (by decide) (fun c_2 => ?_) (fun c_2 => (by omega : False).elim)
      have e9 : T_2_1 = wst0_2 := by rw [← hL_2, L_X8_anew_2]
      have hq := hexit_2
      rw [e9] at hq
      exact hq _ _ ls  hP hS (lv_sub hl [1] rfl)
    | succ n_2 ih_2 =>
      intro k_2 wst0_2 hk_2 hL_2 H locs ls hP hS hl
      have hD : va_D A (mW cI cL cZ ad to wst0_2 mt rd un kp rw se) := mW_D hD
      refine lv_iload_n hx hb dX8_anew_2 rfl (lv_at hl 0 rfl) ?_
      refine lv_bipush (v := nI 60) hx hb dX8_anew_3 rfl ?_
      refine mv_icmp_ge (tgt := 29) hx hb dX8_anew_5 (by decide) (by omega) (by decide) (fun c_1 => (by omega : False).elim) (fun c_1 => ?_)
      refine lv_aload_n hx hb dX8_anew_8 rfl (lv_at hl 1 rfl) ?_
      refine va_get (D := D) (ci := 8) (v := .ref (ad 2)) (C := RX8) (T := TX8) (N := 18) hx hb hts (by decide +kernel) hown hK hP 0 rfl rfl 1 (by decide) (hts (.fieldLink RX8 13 "SummitTimeModel" "st" "[I") (by decide +kernel)) (fun _ h9 => h9) rfl dX8_anew_9 ?_
      refine lv_iload_n hx hb dX8_anew_12 rfl (lv_at hl 0 rfl) ?_
      refine lv_aload_n hx hb dX8_anew_13 rfl (lv_at hl 1 rfl) ?_
      refine va_get (D := D) (ci := 8) (v := .ref (ad 1)) (C := RX8) (T := TX8) (N := 18) hx hb hts (by decide +kernel) hown hK hP 0 rfl rfl 0 (by decide) (hts (.fieldLink RX8 7 "SummitTimeModel" "told" "[I") (by decide +kernel)) (fun _ h9 => h9) rfl dX8_anew_14 ?_
      refine lv_bipush (v := nI 25) hx hb dX8_anew_17 rfl ?_
      refine lv_iload_n hx hb dX8_anew_19 rfl (lv_at hl 0 rfl) ?_
      refine mv_iadd hx hb dX8_anew_20 ?_
      refine mv_iald (f := to) hx hb hK hP 1 0 rfl rfl (by omega) (by decide) dX8_anew_21 ?_
      refine mv_iast (f := wst0_2) hx hb hK hP hD hS 2 0 rfl rfl (by omega) (by decide) dX8_anew_22 (fun H locs hP hD hS => ?_)
      have hP : va_P D vwCl (mW cI cL cZ ad to (upd wst0_2 k_2 (to (25 + k_2))) mt rd un kp rw se) H := hP
      have hD : va_D A (mW cI cL cZ ad to (upd wst0_2 k_2 (to (25 + k_2))) mt rd un kp rw se) := hD
      refine mv_iinc (y := k_2 + 1) (lv' := [(1, .int (nI (k_2 + 1))), (0, .ref (ad 0))]) hx hb dX8_anew_23 hl (k := 0) rfl (nI_p1 _) (by decide) rfl (fun ls hl => ?_)
      refine lv_goto (tgt := 2) hx hb dX8_anew_26 (by decide) ?_
      exact ih_2 (k_2 + 1) (upd wst0_2 k_2 (to (25 + k_2))) (by omega) (by have e9 := hL_2; rw [L_X8_anew_2] at e9; exact e9) _ _ ls hP hS (lv_sub hl [0, 1] rfl)
  exact loop_2 60 0 st (by omega) hT_2_1.symm _ _ ls hP hS (lv_sub hl [0, 1] rfl)
