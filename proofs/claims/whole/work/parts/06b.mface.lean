def L_X8_note_51 (st : (Nat → Int32)) (un : MUn) : Nat → Nat → (Nat → Int32) → (Nat → Int32)
  | 0, _, wun0_51 => wun0_51
  | n_51 + 1, k_51, wun0_51 => (L_X8_note_51 st un n_51 (k_51 + 1) (upd wun0_51 ((73 * un.2) + k_51) (st k_51)))
def L_X8_note_11  : Nat → Nat → (Nat → Int32) → (Nat → Int32)
  | 0, _, wun0_11 => wun0_11
  | n_11 + 1, k_11, wun0_11 => (L_X8_note_11 n_11 (k_11 + 1) (upd wun0_11 k_11 (wun0_11 (k_11 + 73))))
def L_X8_note_51_b (st : (Nat → Int32)) (un : MUn) : Nat → Nat → (Nat → Int32) → (Nat → Int32)
  | 0, _, wun0_51 => wun0_51
  | n_51 + 1, k_51, wun0_51 => (L_X8_note_51_b st un n_51 (k_51 + 1) (upd wun0_51 ((73 * (un.2 - 1)) + k_51) (st k_51)))
def f_X8_note (st : (Nat → Int32)) (un : MUn) : MUn := (if un.2 = 8 then ((L_X8_note_51_b st un 73 0 (L_X8_note_11 511 0 un.1)), ((un.2 - 1) + 1)) else ((L_X8_note_51 st un 73 0 un.1), (un.2 + 1)))
abbrev rm_X8_note : Room := { frames := 0, cells := 0, slots := 0, locals := 0 }
set_option maxHeartbeats 4000000 in
set_option maxRecDepth 100000 in
theorem c_X8_note (l : Launch) (D : va_G) (cI cL cZ : ClassId) (ad : Nat → Nat) (A : Nat → Prop) (to : (Nat → Int32)) (st : (Nat → Int32)) (mt : MTx) (rd : (Nat → Int32)) (un : MUn) (kp : MKp) (rw : MKp) (se : MUn)  (hun : un.2 ≤ 8) : Met l yX8_note wsX8_note rm_X8_note (va_Pc [.ref (ad 0)] (sR D cI cL cZ A (mW cI cL cZ ad to st mt rd un kp rw se))) (va_Qv (fun (u : MUn) => u = (f_X8_note st un)) (fun (u : MUn) t => va_P D vwCl (mW cI cL cZ ad to st mt rd u kp rw se) t.heap) A) 0 0 A := by
  refine Met.ofW (cc := cX8_note) (maxL := 2) (ret := none) (by decide) rfl ?_
  intro p e s m args below meth c s₁ B hml hv
  obtain ⟨rfl, hP, hK, hD, hE⟩ := hv
  have hx := B.exec
  have hb := B.bytes
  have hr := B.returns
  have hts := atoms_spec (ws := wsX8_note) B.pre
  have hown : s.vm.findClass RX8 = some m.cls := findClass_of_methodNamed B.named
  have hlocks := B.notSynchronized
  have hS : va_S A s.heap s.heap [] := va_S.rf
  have hl := lv_entry ([.ref (ad 0)]) (n := 2) (Nat.le_of_ble_eq_true rfl)
  rw [lg_entry_eq]
  generalize (lg_sl ([.ref (ad 0)]) ++ List.replicate (2 - (lg_sl ([.ref (ad 0)])).length) Slot.unset).toArray = ls at hl ⊢
  have hl : lv_has ls 2 [(0, .ref (ad 0))] := hl
  obtain ⟨Q, hQe⟩ : ∃ Q, Q = MQ below (va_Qv (fun (u : MUn) => u = (f_X8_note st un)) (fun (u : MUn) t => va_P D vwCl (mW cI cL cZ ad to st mt rd u kp rw se) t.heap) A) ([.ref (ad 0)] : List Value).toArray s 0 0 A := ⟨_, rfl⟩
  show W p l e (headSpec wsX8_note rm_X8_note).room s m ([.ref (ad 0)] : List Value).toArray below meth c s.heap [] 0 0 (MQ below (va_Qv (fun (u : MUn) => u = (f_X8_note st un)) (fun (u : MUn) t => va_P D vwCl (mW cI cL cZ ad to st mt rd u kp rw se) t.heap) A) ([.ref (ad 0)] : List Value).toArray s 0 0 A) (F0 m 0 ls [])
  rw [← hQe]
  refine lv_aload_n hx hb dX8_note_0 rfl (lv_at hl 0 rfl) ?_
  refine va_get (D := D) (ci := 8) (v := .int (nI un.2)) (C := RX8) (T := TX8) (N := 18) hx hb hts (by decide +kernel) hown hK hP 0 rfl rfl 11 (by decide) (hts (.fieldLink RX8 124 "SummitTimeModel" "undoMany" "I") (by decide +kernel)) (fun _ h9 => h9) rfl dX8_note_1 ?_
  refine lv_bipush (v := nI 8) hx hb dX8_note_4 rfl ?_
  refine mv_icmp_ne (tgt := 49) hx hb dX8_note_6 (by decide) (by omega) (by decide) (fun c_1 => ?_) (fun c_1 => ?_)
  · refine lv_iconst (v := nI 0) hx hb dX8_note_49 rfl ?_
    refine lv_istore_n (lv' := [(1, .int (nI 0)), (0, .ref (ad 0))]) hx hb dX8_note_50 rfl hl (by decide) rfl (fun ls hl => ?_)
    obtain ⟨T_51_1, hT_51_1⟩ : ∃ z, z = (L_X8_note_51 st un 73 0 un.1) := ⟨_, rfl⟩
    have hexit_51 : ∀ (H : Heap) (locs : List Loc) (ls : Array Slot), va_P D vwCl (mW cI cL cZ ad to st mt rd (T_51_1, un.2) kp rw se) H → va_S A s.heap H locs → lv_has ls 2 [(0, .ref (ad 0))] → W p l e (headSpec wsX8_note rm_X8_note).room s m ([.ref (ad 0)] : List Value).toArray below meth c H locs 0 0 Q (F0 m 83 ls []) := by
      intro H locs ls hP hS hl
      have hD : va_D A (mW cI cL cZ ad to st mt rd (T_51_1, un.2) kp rw se) := mW_D hD
      refine lv_aload_n hx hb dX8_note_83 rfl (lv_at hl 0 rfl) ?_
      refine lv_dup hx hb dX8_note_84 rfl ?_
      refine va_get (D := D) (ci := 8) (v := .int (nI un.2)) (C := RX8) (T := TX8) (N := 18) hx hb hts (by decide +kernel) hown hK hP 0 rfl rfl 11 (by decide) (hts (.fieldLink RX8 124 "SummitTimeModel" "undoMany" "I") (by decide +kernel)) (fun _ h9 => h9) rfl dX8_note_85 ?_
      refine lv_iconst (v := nI 1) hx hb dX8_note_88 rfl ?_
      refine mv_iadd hx hb dX8_note_89 ?_
      refine va_put (D := D) (ci := 8) (v := .int (nI (un.2 + 1))) (ty := .int) (C := RX8) (T := TX8) (N := 18) hx hb hts (by decide +kernel) tyX8 tyX8_ok nmX8 hown hK hP hD hS 0 rfl rfl 11 (by decide) (hts (.fieldLink RX8 124 "SummitTimeModel" "undoMany" "I") (by decide +kernel)) (fun _ h9 => h9) rfl (by decide +kernel) rfl rfl (Nat.le_of_ble_eq_true rfl) dX8_note_90 (fun H locs hP hD hS => ?_)
      have hP : va_P D vwCl (mW cI cL cZ ad to st mt rd (T_51_1, (un.2 + 1)) kp rw se) H := hP
      have hD : va_D A (mW cI cL cZ ad to st mt rd (T_51_1, (un.2 + 1)) kp rw se) := hD
      subst hQe
      have hf : (f_X8_note st un) = (T_51_1, (un.2 + 1)) := by subst hT_51_1; rw [f_X8_note, if_neg c_1]
      exact W.vret hx hb hr (fun t ht hW => ⟨⟨(T_51_1, (un.2 + 1)), rfl, hf.symm, va_Pt ht hP⟩, hS.F ht⟩) hS.2.2 dX8_note_93
    have loop_51 : ∀ (n_51 : Nat) (k_51 : Nat) (wun0_51 : Nat → Int32), (k_51 + n_51 = 73) → L_X8_note_51 st un n_51 k_51 wun0_51 = T_51_1 → ∀ (H : Heap) (locs : List Loc) (ls : Array Slot), va_P D vwCl (mW cI cL cZ ad to st mt rd (wun0_51, un.2) kp rw se) H → va_S A s.heap H locs → lv_has ls 2 [(1, .int (nI k_51)), (0, .ref (ad 0))] → W p l e (headSpec wsX8_note rm_X8_note).room s m ([.ref (ad 0)] : List Value).toArray below meth c H locs 0 0 Q (F0 m 51 ls []) := by
      intro n_51
      induction n_51 with
      | zero =>
        intro k_51 wun0_51 hk_51 hL_51 H locs ls hP hS hl
        have hD : va_D A (mW cI cL cZ ad to st mt rd (wun0_51, un.2) kp rw se) := mW_D hD
        refine lv_iload_n hx hb dX8_note_51 rfl (lv_at hl 0 rfl) ?_
        refine lv_bipush (v := nI 73) hx hb dX8_note_52 rfl ?_
        refine mv_icmp_ge (tgt := 83) hx hb dX8_note_54 (by decide) (by omega) (by decide) (fun c_3 => ?_) (fun c_3 => (by omega : False).elim)
        have e9 : T_51_1 = wun0_51 := by rw [← hL_51, L_X8_note_51]
        have hq := hexit_51
        rw [e9] at hq
        exact hq _ _ ls  hP hS (lv_sub hl [1] rfl)
      | succ n_51 ih_51 =>
        intro k_51 wun0_51 hk_51 hL_51 H locs ls hP hS hl
        have hD : va_D A (mW cI cL cZ ad to st mt rd (wun0_51, un.2) kp rw se) := mW_D hD
        refine lv_iload_n hx hb dX8_note_51 rfl (lv_at hl 0 rfl) ?_
        refine lv_bipush (v := nI 73) hx hb dX8_note_52 rfl ?_
        refine mv_icmp_ge (tgt := 83) hx hb dX8_note_54 (by decide) (by omega) (by decide) (fun c_2 => (by omega : False).elim) (fun c_2 => ?_)
        refine lv_aload_n hx hb dX8_note_57 rfl (lv_at hl 1 rfl) ?_
        refine va_get (D := D) (ci := 8) (v := .ref (ad 5)) (C := RX8) (T := TX8) (N := 18) hx hb hts (by decide +kernel) hown hK hP 0 rfl rfl 10 (by decide) (hts (.fieldLink RX8 22 "SummitTimeModel" "ahead" "[I") (by decide +kernel)) (fun _ h9 => h9) rfl dX8_note_58 ?_
        refine lv_bipush (v := nI 73) hx hb dX8_note_61 rfl ?_
        refine lv_aload_n hx hb dX8_note_63 rfl (lv_at hl 1 rfl) ?_
        refine va_get (D := D) (ci := 8) (v := .int (nI un.2)) (C := RX8) (T := TX8) (N := 18) hx hb hts (by decide +kernel) hown hK hP 0 rfl rfl 11 (by decide) (hts (.fieldLink RX8 124 "SummitTimeModel" "undoMany" "I") (by decide +kernel)) (fun _ h9 => h9) rfl dX8_note_64 ?_
        refine mv_imul hx hb dX8_note_67 ?_
        refine lv_iload_n hx hb dX8_note_68 rfl (lv_at hl 0 rfl) ?_
        refine mv_iadd hx hb dX8_note_69 ?_
        refine lv_aload_n hx hb dX8_note_70 rfl (lv_at hl 1 rfl) ?_
        refine va_get (D := D) (ci := 8) (v := .ref (ad 2)) (C := RX8) (T := TX8) (N := 18) hx hb hts (by decide +kernel) hown hK hP 0 rfl rfl 1 (by decide) (hts (.fieldLink RX8 13 "SummitTimeModel" "st" "[I") (by decide +kernel)) (fun _ h9 => h9) rfl dX8_note_71 ?_
        refine lv_iload_n hx hb dX8_note_74 rfl (lv_at hl 0 rfl) ?_
        refine mv_iald (f := st) hx hb hK hP 2 0 rfl rfl (by omega) (by decide) dX8_note_75 ?_
        refine mv_iast (f := wun0_51) hx hb hK hP hD hS 5 0 rfl rfl (by omega) (by decide) dX8_note_76 (fun H locs hP hD hS => ?_)
        have hP : va_P D vwCl (mW cI cL cZ ad to st mt rd ((upd wun0_51 ((73 * un.2) + k_51) (st k_51)), un.2) kp rw se) H := hP
        have hD : va_D A (mW cI cL cZ ad to st mt rd ((upd wun0_51 ((73 * un.2) + k_51) (st k_51)), un.2) kp rw se) := hD
        refine mv_iinc (y := k_51 + 1) (lv' := [(1, .int (nI (k_51 + 1))), (0, .ref (ad 0))]) hx hb dX8_note_77 hl (k := 0) rfl (nI_p1 _) (by decide) rfl (fun ls hl => ?_)
        refine lv_goto (tgt := 51) hx hb dX8_note_80 (by decide) ?_
        exact ih_51 (k_51 + 1) (upd wun0_51 ((73 * un.2) + k_51) (st k_51)) (by omega) (by have e9 := hL_51; rw [L_X8_note_51] at e9; exact e9) _ _ ls hP hS (lv_sub hl [0, 1] rfl)
    exact loop_51 73 0 un.1 (by omega) hT_51_1.symm _ _ ls hP hS (lv_sub hl [0, 1] rfl)
  · refine lv_iconst (v := nI 0) hx hb dX8_note_9 rfl ?_
    refine lv_istore_n (lv' := [(1, .int (nI 0)), (0, .ref (ad 0))]) hx hb dX8_note_10 rfl hl (by decide) rfl (fun ls hl => ?_)
    obtain ⟨T_11_2, hT_11_2⟩ : ∃ z, z = (L_X8_note_11 511 0 un.1) := ⟨_, rfl⟩
    have hexit_11 : ∀ (H : Heap) (locs : List Loc) (ls : Array Slot), va_P D vwCl (mW cI cL cZ ad to st mt rd (T_11_2, un.2) kp rw se) H → va_S A s.heap H locs → lv_has ls 2 [(0, .ref (ad 0))] → W p l e (headSpec wsX8_note rm_X8_note).room s m ([.ref (ad 0)] : List Value).toArray below meth c H locs 0 0 Q (F0 m 39 ls []) := by
      intro H locs ls hP hS hl
      have hD : va_D A (mW cI cL cZ ad to st mt rd (T_11_2, un.2) kp rw se) := mW_D hD
      refine lv_aload_n hx hb dX8_note_39 rfl (lv_at hl 0 rfl) ?_
      refine lv_dup hx hb dX8_note_40 rfl ?_
      refine va_get (D := D) (ci := 8) (v := .int (nI un.2)) (C := RX8) (T := TX8) (N := 18) hx hb hts (by decide +kernel) hown hK hP 0 rfl rfl 11 (by decide) (hts (.fieldLink RX8 124 "SummitTimeModel" "undoMany" "I") (by decide +kernel)) (fun _ h9 => h9) rfl dX8_note_41 ?_
      refine lv_iconst (v := nI 1) hx hb dX8_note_44 rfl ?_
      refine mv_isub hx hb dX8_note_45 (by omega) ?_
      refine va_put (D := D) (ci := 8) (v := .int (nI (un.2 - 1))) (ty := .int) (C := RX8) (T := TX8) (N := 18) hx hb hts (by decide +kernel) tyX8 tyX8_ok nmX8 hown hK hP hD hS 0 rfl rfl 11 (by decide) (hts (.fieldLink RX8 124 "SummitTimeModel" "undoMany" "I") (by decide +kernel)) (fun _ h9 => h9) rfl (by decide +kernel) rfl rfl (Nat.le_of_ble_eq_true rfl) dX8_note_46 (fun H locs hP hD hS => ?_)
      have hP : va_P D vwCl (mW cI cL cZ ad to st mt rd (T_11_2, (un.2 - 1)) kp rw se) H := hP
      have hD : va_D A (mW cI cL cZ ad to st mt rd (T_11_2, (un.2 - 1)) kp rw se) := hD
      refine lv_iconst (v := nI 0) hx hb dX8_note_49 rfl ?_
      refine lv_istore_n (lv' := [(1, .int (nI 0)), (0, .ref (ad 0))]) hx hb dX8_note_50 rfl hl (by decide) rfl (fun ls hl => ?_)
      obtain ⟨T_51_3, hT_51_3⟩ : ∃ z, z = (L_X8_note_51_b st un 73 0 T_11_2) := ⟨_, rfl⟩
      have hexit_51 : ∀ (H : Heap) (locs : List Loc) (ls : Array Slot), va_P D vwCl (mW cI cL cZ ad to st mt rd (T_51_3, (un.2 - 1)) kp rw se) H → va_S A s.heap H locs → lv_has ls 2 [(0, .ref (ad 0))] → W p l e (headSpec wsX8_note rm_X8_note).room s m ([.ref (ad 0)] : List Value).toArray below meth c H locs 0 0 Q (F0 m 83 ls []) := by
        intro H locs ls hP hS hl
        have hD : va_D A (mW cI cL cZ ad to st mt rd (T_51_3, (un.2 - 1)) kp rw se) := mW_D hD
        refine lv_aload_n hx hb dX8_note_83 rfl (lv_at hl 0 rfl) ?_
        refine lv_dup hx hb dX8_note_84 rfl ?_
        refine va_get (D := D) (ci := 8) (v := .int (nI (un.2 - 1))) (C := RX8) (T := TX8) (N := 18) hx hb hts (by decide +kernel) hown hK hP 0 rfl rfl 11 (by decide) (hts (.fieldLink RX8 124 "SummitTimeModel" "undoMany" "I") (by decide +kernel)) (fun _ h9 => h9) rfl dX8_note_85 ?_
        refine lv_iconst (v := nI 1) hx hb dX8_note_88 rfl ?_
        refine mv_iadd hx hb dX8_note_89 ?_
        refine va_put (D := D) (ci := 8) (v := .int (nI ((un.2 - 1) + 1))) (ty := .int) (C := RX8) (T := TX8) (N := 18) hx hb hts (by decide +kernel) tyX8 tyX8_ok nmX8 hown hK hP hD hS 0 rfl rfl 11 (by decide) (hts (.fieldLink RX8 124 "SummitTimeModel" "undoMany" "I") (by decide +kernel)) (fun _ h9 => h9) rfl (by decide +kernel) rfl rfl (Nat.le_of_ble_eq_true rfl) dX8_note_90 (fun H locs hP hD hS => ?_)
        have hP : va_P D vwCl (mW cI cL cZ ad to st mt rd (T_51_3, ((un.2 - 1) + 1)) kp rw se) H := hP
        have hD : va_D A (mW cI cL cZ ad to st mt rd (T_51_3, ((un.2 - 1) + 1)) kp rw se) := hD
        subst hQe
        have hf : (f_X8_note st un) = (T_51_3, ((un.2 - 1) + 1)) := by subst hT_51_3; subst hT_11_2; rw [f_X8_note, if_pos c_1]
        exact W.vret hx hb hr (fun t ht hW => ⟨⟨(T_51_3, ((un.2 - 1) + 1)), rfl, hf.symm, va_Pt ht hP⟩, hS.F ht⟩) hS.2.2 dX8_note_93
      have loop_51 : ∀ (n_51 : Nat) (k_51 : Nat) (wun0_51 : Nat → Int32), (k_51 + n_51 = 73) → L_X8_note_51_b st un n_51 k_51 wun0_51 = T_51_3 → ∀ (H : Heap) (locs : List Loc) (ls : Array Slot), va_P D vwCl (mW cI cL cZ ad to st mt rd (wun0_51, (un.2 - 1)) kp rw se) H → va_S A s.heap H locs → lv_has ls 2 [(1, .int (nI k_51)), (0, .ref (ad 0))] → W p l e (headSpec wsX8_note rm_X8_note).room s m ([.ref (ad 0)] : List Value).toArray below meth c H locs 0 0 Q (F0 m 51 ls []) := by
        intro n_51
        induction n_51 with
        | zero =>
          intro k_51 wun0_51 hk_51 hL_51 H locs ls hP hS hl
          have hD : va_D A (mW cI cL cZ ad to st mt rd (wun0_51, (un.2 - 1)) kp rw se) := mW_D hD
          refine lv_iload_n hx hb dX8_note_51 rfl (lv_at hl 0 rfl) ?_
          refine lv_bipush (v := nI 73) hx hb dX8_note_52 rfl ?_
          refine mv_icmp_ge (tgt := 83) hx hb dX8_note_54 (by decide) (by omega) (by decide) (fun c_7 => ?_) (fun c_7 => (by omega : False).elim)
          have e9 : T_51_3 = wun0_51 := by rw [← hL_51, L_X8_note_51_b]
          have hq := hexit_51
          rw [e9] at hq
          exact hq _ _ ls  hP hS (lv_sub hl [1] rfl)
        | succ n_51 ih_51 =>
          intro k_51 wun0_51 hk_51 hL_51 H locs ls hP hS hl
          have hD : va_D A (mW cI cL cZ ad to st mt rd (wun0_51, (un.2 - 1)) kp rw se) := mW_D hD
          refine lv_iload_n hx hb dX8_note_51 rfl (lv_at hl 0 rfl) ?_
          refine lv_bipush (v := nI 73) hx hb dX8_note_52 rfl ?_
          refine mv_icmp_ge (tgt := 83) hx hb dX8_note_54 (by decide) (by omega) (by decide) (fun c_6 => (by omega : False).elim) (fun c_6 => ?_)
          refine lv_aload_n hx hb dX8_note_57 rfl (lv_at hl 1 rfl) ?_
          refine va_get (D := D) (ci := 8) (v := .ref (ad 5)) (C := RX8) (T := TX8) (N := 18) hx hb hts (by decide +kernel) hown hK hP 0 rfl rfl 10 (by decide) (hts (.fieldLink RX8 22 "SummitTimeModel" "ahead" "[I") (by decide +kernel)) (fun _ h9 => h9) rfl dX8_note_58 ?_
          refine lv_bipush (v := nI 73) hx hb dX8_note_61 rfl ?_
          refine lv_aload_n hx hb dX8_note_63 rfl (lv_at hl 1 rfl) ?_
          refine va_get (D := D) (ci := 8) (v := .int (nI (un.2 - 1))) (C := RX8) (T := TX8) (N := 18) hx hb hts (by decide +kernel) hown hK hP 0 rfl rfl 11 (by decide) (hts (.fieldLink RX8 124 "SummitTimeModel" "undoMany" "I") (by decide +kernel)) (fun _ h9 => h9) rfl dX8_note_64 ?_
          refine mv_imul hx hb dX8_note_67 ?_
          refine lv_iload_n hx hb dX8_note_68 rfl (lv_at hl 0 rfl) ?_
          refine mv_iadd hx hb dX8_note_69 ?_
          refine lv_aload_n hx hb dX8_note_70 rfl (lv_at hl 1 rfl) ?_
          refine va_get (D := D) (ci := 8) (v := .ref (ad 2)) (C := RX8) (T := TX8) (N := 18) hx hb hts (by decide +kernel) hown hK hP 0 rfl rfl 1 (by decide) (hts (.fieldLink RX8 13 "SummitTimeModel" "st" "[I") (by decide +kernel)) (fun _ h9 => h9) rfl dX8_note_71 ?_
          refine lv_iload_n hx hb dX8_note_74 rfl (lv_at hl 0 rfl) ?_
          refine mv_iald (f := st) hx hb hK hP 2 0 rfl rfl (by omega) (by decide) dX8_note_75 ?_
          refine mv_iast (f := wun0_51) hx hb hK hP hD hS 5 0 rfl rfl (by omega) (by decide) dX8_note_76 (fun H locs hP hD hS => ?_)
          have hP : va_P D vwCl (mW cI cL cZ ad to st mt rd ((upd wun0_51 ((73 * (un.2 - 1)) + k_51) (st k_51)), (un.2 - 1)) kp rw se) H := hP
          have hD : va_D A (mW cI cL cZ ad to st mt rd ((upd wun0_51 ((73 * (un.2 - 1)) + k_51) (st k_51)), (un.2 - 1)) kp rw se) := hD
          refine mv_iinc (y := k_51 + 1) (lv' := [(1, .int (nI (k_51 + 1))), (0, .ref (ad 0))]) hx hb dX8_note_77 hl (k := 0) rfl (nI_p1 _) (by decide) rfl (fun ls hl => ?_)
          refine lv_goto (tgt := 51) hx hb dX8_note_80 (by decide) ?_
          exact ih_51 (k_51 + 1) (upd wun0_51 ((73 * (un.2 - 1)) + k_51) (st k_51)) (by omega) (by have e9 := hL_51; rw [L_X8_note_51_b] at e9; exact e9) _ _ ls hP hS (lv_sub hl [0, 1] rfl)
      exact loop_51 73 0 T_11_2 (by omega) hT_51_3.symm _ _ ls hP hS (lv_sub hl [0, 1] rfl)
    have loop_11 : ∀ (n_11 : Nat) (k_11 : Nat) (wun0_11 : Nat → Int32), (k_11 + n_11 = 511) → L_X8_note_11 n_11 k_11 wun0_11 = T_11_2 → ∀ (H : Heap) (locs : List Loc) (ls : Array Slot), va_P D vwCl (mW cI cL cZ ad to st mt rd (wun0_11, un.2) kp rw se) H → va_S A s.heap H locs → lv_has ls 2 [(1, .int (nI k_11)), (0, .ref (ad 0))] → W p l e (headSpec wsX8_note rm_X8_note).room s m ([.ref (ad 0)] : List Value).toArray below meth c H locs 0 0 Q (F0 m 11 ls []) := by
      intro n_11
      induction n_11 with
      | zero =>
        intro k_11 wun0_11 hk_11 hL_11 H locs ls hP hS hl
        have hD : va_D A (mW cI cL cZ ad to st mt rd (wun0_11, un.2) kp rw se) := mW_D hD
        refine lv_iload_n hx hb dX8_note_11 rfl (lv_at hl 0 rfl) ?_
        refine lv_sipush (v := nI 511) hx hb dX8_note_12 rfl ?_
        refine mv_icmp_ge (tgt := 39) hx hb dX8_note_15 (by decide) (by omega) (by decide) (fun c_5 => ?_) (fun c_5 => (by omega : False).elim)
        have e9 : T_11_2 = wun0_11 := by rw [← hL_11, L_X8_note_11]
        have hq := hexit_11
        rw [e9] at hq
        exact hq _ _ ls  hP hS (lv_sub hl [1] rfl)
      | succ n_11 ih_11 =>
        intro k_11 wun0_11 hk_11 hL_11 H locs ls hP hS hl
        have hD : va_D A (mW cI cL cZ ad to st mt rd (wun0_11, un.2) kp rw se) := mW_D hD
        refine lv_iload_n hx hb dX8_note_11 rfl (lv_at hl 0 rfl) ?_
        refine lv_sipush (v := nI 511) hx hb dX8_note_12 rfl ?_
        refine mv_icmp_ge (tgt := 39) hx hb dX8_note_15 (by decide) (by omega) (by decide) (fun c_4 => (by omega : False).elim) (fun c_4 => ?_)
        refine lv_aload_n hx hb dX8_note_18 rfl (lv_at hl 1 rfl) ?_
        refine va_get (D := D) (ci := 8) (v := .ref (ad 5)) (C := RX8) (T := TX8) (N := 18) hx hb hts (by decide +kernel) hown hK hP 0 rfl rfl 10 (by decide) (hts (.fieldLink RX8 22 "SummitTimeModel" "ahead" "[I") (by decide +kernel)) (fun _ h9 => h9) rfl dX8_note_19 ?_
        refine lv_iload_n hx hb dX8_note_22 rfl (lv_at hl 0 rfl) ?_
        refine lv_aload_n hx hb dX8_note_23 rfl (lv_at hl 1 rfl) ?_
        refine va_get (D := D) (ci := 8) (v := .ref (ad 5)) (C := RX8) (T := TX8) (N := 18) hx hb hts (by decide +kernel) hown hK hP 0 rfl rfl 10 (by decide) (hts (.fieldLink RX8 22 "SummitTimeModel" "ahead" "[I") (by decide +kernel)) (fun _ h9 => h9) rfl dX8_note_24 ?_
        refine lv_iload_n hx hb dX8_note_27 rfl (lv_at hl 0 rfl) ?_
        refine lv_bipush (v := nI 73) hx hb dX8_note_28 rfl ?_
        refine mv_iadd hx hb dX8_note_30 ?_
        refine mv_iald (f := wun0_11) hx hb hK hP 5 0 rfl rfl (by omega) (by decide) dX8_note_31 ?_
        refine mv_iast (f := wun0_11) hx hb hK hP hD hS 5 0 rfl rfl (by omega) (by decide) dX8_note_32 (fun H locs hP hD hS => ?_)
        have hP : va_P D vwCl (mW cI cL cZ ad to st mt rd ((upd wun0_11 k_11 (wun0_11 (k_11 + 73))), un.2) kp rw se) H := hP
        have hD : va_D A (mW cI cL cZ ad to st mt rd ((upd wun0_11 k_11 (wun0_11 (k_11 + 73))), un.2) kp rw se) := hD
        refine mv_iinc (y := k_11 + 1) (lv' := [(1, .int (nI (k_11 + 1))), (0, .ref (ad 0))]) hx hb dX8_note_33 hl (k := 0) rfl (nI_p1 _) (by decide) rfl (fun ls hl => ?_)
        refine lv_goto (tgt := 11) hx hb dX8_note_36 (by decide) ?_
        exact ih_11 (k_11 + 1) (upd wun0_11 k_11 (wun0_11 (k_11 + 73))) (by omega) (by have e9 := hL_11; rw [L_X8_note_11] at e9; exact e9) _ _ ls hP hS (lv_sub hl [0, 1] rfl)
    exact loop_11 511 0 un.1 (by omega) hT_11_2.symm _ _ ls hP hS (lv_sub hl [0, 1] rfl)
def f_X8_person (to : (Nat → Int32)) (st : (Nat → Int32)) (pe : Int32) (wh : Int32) : Int32 := (if (f_X8_isPerson to pe) = 0 then (-2 : Int32) else (if wh = nI 0 then (to (1 + pe.toNatClampNeg)) else (if wh = nI 1 then (to (7 + pe.toNatClampNeg)) else (if wh = nI 2 then (to (13 + pe.toNatClampNeg)) else (if wh = nI 3 then (to (19 + pe.toNatClampNeg)) else (if wh = nI 4 then (st (60 + pe.toNatClampNeg)) else (if wh = nI 5 then (st (66 + pe.toNatClampNeg)) else (if wh = nI 6 then (if (f_X8_standMany to st pe.toNatClampNeg) = 0 then (-1 : Int32) else (f_X8_thereBy to st pe.toNatClampNeg (st (60 + pe.toNatClampNeg)))) else (if wh = nI 7 then (f_X8_standMany to st pe.toNatClampNeg) else (if wh = nI 8 then (f_X8_fineOf to st pe.toNatClampNeg) else (if wh = nI 9 then (f_X8_ownMany st (nI pe.toNatClampNeg)) else (-3 : Int32))))))))))))
abbrev rm_X8_person : Room := { frames := 5, cells := 0, slots := 0, locals := 113 }
set_option maxHeartbeats 4000000 in
set_option maxRecDepth 100000 in
theorem c_X8_person (l : Launch) (D : va_G) (cI cL cZ : ClassId) (ad : Nat → Nat) (A : Nat → Prop) (to : (Nat → Int32)) (st : (Nat → Int32)) (mt : MTx) (rd : (Nat → Int32)) (un : MUn) (kp : MKp) (rw : MKp) (se : MUn) (pe : Int32) (wh : Int32) (hm : to 0 = nI (mN to)) (hm6 : mN to ≤ 6) (hso : ∀ j, j < 60 → (st j).toNatClampNeg < 6) : Met l yX8_person wsX8_person rm_X8_person (va_Pc [.ref (ad 0), .int pe, .int wh] (sR D cI cL cZ A (mW cI cL cZ ad to st mt rd un kp rw se))) (vp_Si (fun r => r = (f_X8_person to st pe wh))) 0 0 (fun _ => False) := by
  refine Met.ofW (cc := cX8_person) (maxL := 3) (ret := (some .int)) (by decide) rfl ?_
  intro p e s m args below meth c s₁ B hml hv
  obtain ⟨rfl, hP, hK, hD, hE⟩ := hv
  have hx := B.exec
  have hb := B.bytes
  have hr := B.returns
  have hts := atoms_spec (ws := wsX8_person) B.pre
  have hown : s.vm.findClass RX8 = some m.cls := findClass_of_methodNamed B.named
  have hlocks := B.notSynchronized
  have hl := lv_entry ([.ref (ad 0), .int pe, .int wh]) (n := 3) (Nat.le_of_ble_eq_true rfl)
  rw [lg_entry_eq]
  generalize (lg_sl ([.ref (ad 0), .int pe, .int wh]) ++ List.replicate (3 - (lg_sl ([.ref (ad 0), .int pe, .int wh])).length) Slot.unset).toArray = ls at hl ⊢
  have hl : lv_has ls 3 [(0, .ref (ad 0)), (1, .int pe), (2, .int wh)] := hl
  refine lv_aload_n hx hb dX8_person_0 rfl (lv_at hl 0 rfl) ?_
  refine lv_iload_n hx hb dX8_person_1 rfl (lv_at hl 1 rfl) ?_
  refine vp_callSi (va_Run.run (va_runV (As := [.int pe]) (rest := []) ⟨hx, hb, hml, hown, hts⟩ (c_X8_isPerson l D cI cL cZ ad A to st mt rd un kp rw se pe (by first | assumption | omega) (by first | assumption | omega)) (cwV 1 hts gX8_person_X8_isPerson rfl rfl rfl (by decide +kernel) ⟨Nat.le_of_ble_eq_true rfl, Nat.le_of_ble_eq_true rfl⟩) ⟨sR_fb, va_recv hK hP (ci := 8) (q0 := 0) rfl rfl, sR_at hP hK hD hE⟩ rfl rfl hl.1 rfl (lv_room (Nat.le_of_ble_eq_true rfl)) dX8_person_2 ⟨Nat.zero_le _, Nat.zero_le _⟩)) (fun r hr => ?_)
  subst hr
  refine lv_if_ne (tgt := 11) hx hb dX8_person_5 (by decide) (fun c_1 => ?_) (fun c_1 => ?_)
  · have hpl : pe.toNatClampNeg < mN to := isP_lt hm6 c_1
    have hl : lv_has ls 3 [(0, .ref (ad 0)), (1, .int (nI pe.toNatClampNeg)), (2, .int wh)] := by have h9 := hl; rw [isP_nat c_1] at h9; exact h9
    refine lv_iload_n hx hb dX8_person_11 rfl (lv_at hl 2 rfl) ?_
    by_cases c_2 : wh = nI 0
    · refine lv_tableIn (off := 56) (tgt := 68) hx hb dX8_person_12 (by rw [c_2]; decide) (by rw [c_2]; decide) (by rw [c_2]; decide) (by decide) ?_
      refine lv_aload_n hx hb dX8_person_68 rfl (lv_at hl 0 rfl) ?_
      refine va_get (D := D) (ci := 8) (v := .ref (ad 1)) (C := RX8) (T := TX8) (N := 18) hx hb hts (by decide +kernel) hown hK hP 0 rfl rfl 0 (by decide) (hts (.fieldLink RX8 7 "SummitTimeModel" "told" "[I") (by decide +kernel)) (fun _ h9 => h9) rfl dX8_person_69 ?_
      refine lv_iconst (v := nI 1) hx hb dX8_person_72 rfl ?_
      refine lv_iload_n hx hb dX8_person_73 rfl (lv_at hl 1 rfl) ?_
      refine mv_iadd hx hb dX8_person_74 ?_
      refine mv_iald (f := to) hx hb hK hP 1 0 rfl rfl (by omega) (by decide) dX8_person_75 ?_
      have hf : (f_X8_person to st pe wh) = (to (1 + pe.toNatClampNeg)) := by rw [f_X8_person, if_neg c_1, if_pos c_2]
      exact W.iret (v := (to (1 + pe.toNatClampNeg))) hx hb hr (fun t ht hW => ⟨(to (1 + pe.toNatClampNeg)), rfl, hf.symm, ht⟩) (fun _ h => by cases h) dX8_person_76
    · by_cases c_3 : wh = nI 1
      · refine lv_tableIn (off := 65) (tgt := 77) hx hb dX8_person_12 (by rw [c_3]; decide) (by rw [c_3]; decide) (by rw [c_3]; decide) (by decide) ?_
        refine lv_aload_n hx hb dX8_person_77 rfl (lv_at hl 0 rfl) ?_
        refine va_get (D := D) (ci := 8) (v := .ref (ad 1)) (C := RX8) (T := TX8) (N := 18) hx hb hts (by decide +kernel) hown hK hP 0 rfl rfl 0 (by decide) (hts (.fieldLink RX8 7 "SummitTimeModel" "told" "[I") (by decide +kernel)) (fun _ h9 => h9) rfl dX8_person_78 ?_
        refine lv_bipush (v := nI 7) hx hb dX8_person_81 rfl ?_
        refine lv_iload_n hx hb dX8_person_83 rfl (lv_at hl 1 rfl) ?_
        refine mv_iadd hx hb dX8_person_84 ?_
        refine mv_iald (f := to) hx hb hK hP 1 0 rfl rfl (by omega) (by decide) dX8_person_85 ?_
        have hf : (f_X8_person to st pe wh) = (to (7 + pe.toNatClampNeg)) := by rw [f_X8_person, if_neg c_1, if_neg c_2, if_pos c_3]
        exact W.iret (v := (to (7 + pe.toNatClampNeg))) hx hb hr (fun t ht hW => ⟨(to (7 + pe.toNatClampNeg)), rfl, hf.symm, ht⟩) (fun _ h => by cases h) dX8_person_86
      · by_cases c_4 : wh = nI 2
        · refine lv_tableIn (off := 75) (tgt := 87) hx hb dX8_person_12 (by rw [c_4]; decide) (by rw [c_4]; decide) (by rw [c_4]; decide) (by decide) ?_
          refine lv_aload_n hx hb dX8_person_87 rfl (lv_at hl 0 rfl) ?_
          refine va_get (D := D) (ci := 8) (v := .ref (ad 1)) (C := RX8) (T := TX8) (N := 18) hx hb hts (by decide +kernel) hown hK hP 0 rfl rfl 0 (by decide) (hts (.fieldLink RX8 7 "SummitTimeModel" "told" "[I") (by decide +kernel)) (fun _ h9 => h9) rfl dX8_person_88 ?_
          refine lv_bipush (v := nI 13) hx hb dX8_person_91 rfl ?_
          refine lv_iload_n hx hb dX8_person_93 rfl (lv_at hl 1 rfl) ?_
          refine mv_iadd hx hb dX8_person_94 ?_
          refine mv_iald (f := to) hx hb hK hP 1 0 rfl rfl (by omega) (by decide) dX8_person_95 ?_
          have hf : (f_X8_person to st pe wh) = (to (13 + pe.toNatClampNeg)) := by rw [f_X8_person, if_neg c_1, if_neg c_2, if_neg c_3, if_pos c_4]
          exact W.iret (v := (to (13 + pe.toNatClampNeg))) hx hb hr (fun t ht hW => ⟨(to (13 + pe.toNatClampNeg)), rfl, hf.symm, ht⟩) (fun _ h => by cases h) dX8_person_96
        · by_cases c_5 : wh = nI 3
          · refine lv_tableIn (off := 85) (tgt := 97) hx hb dX8_person_12 (by rw [c_5]; decide) (by rw [c_5]; decide) (by rw [c_5]; decide) (by decide) ?_
            refine lv_aload_n hx hb dX8_person_97 rfl (lv_at hl 0 rfl) ?_
            refine va_get (D := D) (ci := 8) (v := .ref (ad 1)) (C := RX8) (T := TX8) (N := 18) hx hb hts (by decide +kernel) hown hK hP 0 rfl rfl 0 (by decide) (hts (.fieldLink RX8 7 "SummitTimeModel" "told" "[I") (by decide +kernel)) (fun _ h9 => h9) rfl dX8_person_98 ?_
            refine lv_bipush (v := nI 19) hx hb dX8_person_101 rfl ?_
            refine lv_iload_n hx hb dX8_person_103 rfl (lv_at hl 1 rfl) ?_
            refine mv_iadd hx hb dX8_person_104 ?_
            refine mv_iald (f := to) hx hb hK hP 1 0 rfl rfl (by omega) (by decide) dX8_person_105 ?_
            have hf : (f_X8_person to st pe wh) = (to (19 + pe.toNatClampNeg)) := by rw [f_X8_person, if_neg c_1, if_neg c_2, if_neg c_3, if_neg c_4, if_pos c_5]
            exact W.iret (v := (to (19 + pe.toNatClampNeg))) hx hb hr (fun t ht hW => ⟨(to (19 + pe.toNatClampNeg)), rfl, hf.symm, ht⟩) (fun _ h => by cases h) dX8_person_106
          · by_cases c_6 : wh = nI 4
            · refine lv_tableIn (off := 95) (tgt := 107) hx hb dX8_person_12 (by rw [c_6]; decide) (by rw [c_6]; decide) (by rw [c_6]; decide) (by decide) ?_
              refine lv_aload_n hx hb dX8_person_107 rfl (lv_at hl 0 rfl) ?_
              refine va_get (D := D) (ci := 8) (v := .ref (ad 2)) (C := RX8) (T := TX8) (N := 18) hx hb hts (by decide +kernel) hown hK hP 0 rfl rfl 1 (by decide) (hts (.fieldLink RX8 13 "SummitTimeModel" "st" "[I") (by decide +kernel)) (fun _ h9 => h9) rfl dX8_person_108 ?_
              refine lv_bipush (v := nI 60) hx hb dX8_person_111 rfl ?_
              refine lv_iload_n hx hb dX8_person_113 rfl (lv_at hl 1 rfl) ?_
              refine mv_iadd hx hb dX8_person_114 ?_
              refine mv_iald (f := st) hx hb hK hP 2 0 rfl rfl (by omega) (by decide) dX8_person_115 ?_
              have hf : (f_X8_person to st pe wh) = (st (60 + pe.toNatClampNeg)) := by rw [f_X8_person, if_neg c_1, if_neg c_2, if_neg c_3, if_neg c_4, if_neg c_5, if_pos c_6]
              exact W.iret (v := (st (60 + pe.toNatClampNeg))) hx hb hr (fun t ht hW => ⟨(st (60 + pe.toNatClampNeg)), rfl, hf.symm, ht⟩) (fun _ h => by cases h) dX8_person_116
            · by_cases c_7 : wh = nI 5
              · refine lv_tableIn (off := 105) (tgt := 117) hx hb dX8_person_12 (by rw [c_7]; decide) (by rw [c_7]; decide) (by rw [c_7]; decide) (by decide) ?_
                refine lv_aload_n hx hb dX8_person_117 rfl (lv_at hl 0 rfl) ?_
                refine va_get (D := D) (ci := 8) (v := .ref (ad 2)) (C := RX8) (T := TX8) (N := 18) hx hb hts (by decide +kernel) hown hK hP 0 rfl rfl 1 (by decide) (hts (.fieldLink RX8 13 "SummitTimeModel" "st" "[I") (by decide +kernel)) (fun _ h9 => h9) rfl dX8_person_118 ?_
                refine lv_bipush (v := nI 66) hx hb dX8_person_121 rfl ?_
                refine lv_iload_n hx hb dX8_person_123 rfl (lv_at hl 1 rfl) ?_
                refine mv_iadd hx hb dX8_person_124 ?_
                refine mv_iald (f := st) hx hb hK hP 2 0 rfl rfl (by omega) (by decide) dX8_person_125 ?_
                have hf : (f_X8_person to st pe wh) = (st (66 + pe.toNatClampNeg)) := by rw [f_X8_person, if_neg c_1, if_neg c_2, if_neg c_3, if_neg c_4, if_neg c_5, if_neg c_6, if_pos c_7]
                exact W.iret (v := (st (66 + pe.toNatClampNeg))) hx hb hr (fun t ht hW => ⟨(st (66 + pe.toNatClampNeg)), rfl, hf.symm, ht⟩) (fun _ h => by cases h) dX8_person_126
              · by_cases c_8 : wh = nI 6
                · refine lv_tableIn (off := 115) (tgt := 127) hx hb dX8_person_12 (by rw [c_8]; decide) (by rw [c_8]; decide) (by rw [c_8]; decide) (by decide) ?_
                  refine lv_aload_n hx hb dX8_person_127 rfl (lv_at hl 0 rfl) ?_
                  refine lv_iload_n hx hb dX8_person_128 rfl (lv_at hl 1 rfl) ?_
                  refine vp_callSi (va_Run.run (va_runV (As := [.int (nI pe.toNatClampNeg)]) (rest := []) ⟨hx, hb, hml, hown, hts⟩ (c_X8_standMany l D cI cL cZ ad A to st mt rd un kp rw se pe.toNatClampNeg (by first | assumption | omega)) (cwV 1 hts gX8_person_X8_standMany rfl rfl rfl (by decide +kernel) ⟨Nat.le_of_ble_eq_true rfl, Nat.le_of_ble_eq_true rfl⟩) ⟨sR_fb, va_recv hK hP (ci := 8) (q0 := 0) rfl rfl, sR_at hP hK hD hE⟩ rfl rfl hl.1 rfl (lv_room (Nat.le_of_ble_eq_true rfl)) dX8_person_129 ⟨Nat.zero_le _, Nat.zero_le _⟩)) (fun r hr => ?_)
                  subst hr
                  refine mv_phi (v := (if (f_X8_standMany to st pe.toNatClampNeg) = 0 then (-1 : Int32) else (f_X8_thereBy to st pe.toNatClampNeg (st (60 + pe.toNatClampNeg))))) (pcj := 153) (ls := ls) (rest' := []) ?_ (fun J_9 => ?_)
                  · have hf : (f_X8_person to st pe wh) = (if (f_X8_standMany to st pe.toNatClampNeg) = 0 then (-1 : Int32) else (f_X8_thereBy to st pe.toNatClampNeg (st (60 + pe.toNatClampNeg)))) := by rw [f_X8_person, if_neg c_1, if_neg c_2, if_neg c_3, if_neg c_4, if_neg c_5, if_neg c_6, if_neg c_7, if_pos c_8]
                    exact W.iret (v := (if (f_X8_standMany to st pe.toNatClampNeg) = 0 then (-1 : Int32) else (f_X8_thereBy to st pe.toNatClampNeg (st (60 + pe.toNatClampNeg))))) hx hb hr (fun t ht hW => ⟨(if (f_X8_standMany to st pe.toNatClampNeg) = 0 then (-1 : Int32) else (f_X8_thereBy to st pe.toNatClampNeg (st (60 + pe.toNatClampNeg)))), rfl, hf.symm, ht⟩) (fun _ h => by cases h) dX8_person_153
                  · refine lv_if_ne (tgt := 139) hx hb dX8_person_132 (by decide) (fun c_10 => ?_) (fun c_10 => ?_)
                    · refine lv_aload_n hx hb dX8_person_139 rfl (lv_at hl 0 rfl) ?_
                      refine lv_iload_n hx hb dX8_person_140 rfl (lv_at hl 1 rfl) ?_
                      refine lv_aload_n hx hb dX8_person_141 rfl (lv_at hl 0 rfl) ?_
                      refine va_get (D := D) (ci := 8) (v := .ref (ad 2)) (C := RX8) (T := TX8) (N := 18) hx hb hts (by decide +kernel) hown hK hP 0 rfl rfl 1 (by decide) (hts (.fieldLink RX8 13 "SummitTimeModel" "st" "[I") (by decide +kernel)) (fun _ h9 => h9) rfl dX8_person_142 ?_
                      refine lv_bipush (v := nI 60) hx hb dX8_person_145 rfl ?_
                      refine lv_iload_n hx hb dX8_person_147 rfl (lv_at hl 1 rfl) ?_
                      refine mv_iadd hx hb dX8_person_148 ?_
                      refine mv_iald (f := st) hx hb hK hP 2 0 rfl rfl (by omega) (by decide) dX8_person_149 ?_
                      refine vp_callSi (va_Run.run (va_runV (As := [.int (nI pe.toNatClampNeg), .int (st (60 + pe.toNatClampNeg))]) (rest := []) ⟨hx, hb, hml, hown, hts⟩ (c_X8_thereBy l D cI cL cZ ad A to st mt rd un kp rw se pe.toNatClampNeg (st (60 + pe.toNatClampNeg)) (by first | assumption | omega)) (cwV 2 hts gX8_person_X8_thereBy rfl rfl rfl (by decide +kernel) ⟨Nat.le_of_ble_eq_true rfl, Nat.le_of_ble_eq_true rfl⟩) ⟨sR_fb, va_recv hK hP (ci := 8) (q0 := 0) rfl rfl, sR_at hP hK hD hE⟩ rfl rfl hl.1 rfl (lv_room (Nat.le_of_ble_eq_true rfl)) dX8_person_150 ⟨Nat.zero_le _, Nat.zero_le _⟩)) (fun r hr => ?_)
                      subst hr
                      exact J_9 _ (by rw [if_neg c_10])
                    · refine lv_iconst (v := (-1)) hx hb dX8_person_135 rfl ?_
                      refine lv_goto (tgt := 153) hx hb dX8_person_136 (by decide) ?_
                      exact J_9 _ (by rw [if_pos c_10])
                · by_cases c_11 : wh = nI 7
                  · refine lv_tableIn (off := 142) (tgt := 154) hx hb dX8_person_12 (by rw [c_11]; decide) (by rw [c_11]; decide) (by rw [c_11]; decide) (by decide) ?_
                    refine lv_aload_n hx hb dX8_person_154 rfl (lv_at hl 0 rfl) ?_
                    refine lv_iload_n hx hb dX8_person_155 rfl (lv_at hl 1 rfl) ?_
                    refine vp_callSi (va_Run.run (va_runV (As := [.int (nI pe.toNatClampNeg)]) (rest := []) ⟨hx, hb, hml, hown, hts⟩ (c_X8_standMany l D cI cL cZ ad A to st mt rd un kp rw se pe.toNatClampNeg (by first | assumption | omega)) (cwV 1 hts gX8_person_X8_standMany rfl rfl rfl (by decide +kernel) ⟨Nat.le_of_ble_eq_true rfl, Nat.le_of_ble_eq_true rfl⟩) ⟨sR_fb, va_recv hK hP (ci := 8) (q0 := 0) rfl rfl, sR_at hP hK hD hE⟩ rfl rfl hl.1 rfl (lv_room (Nat.le_of_ble_eq_true rfl)) dX8_person_156 ⟨Nat.zero_le _, Nat.zero_le _⟩)) (fun r hr => ?_)
                    subst hr
                    have hf : (f_X8_person to st pe wh) = (f_X8_standMany to st pe.toNatClampNeg) := by rw [f_X8_person, if_neg c_1, if_neg c_2, if_neg c_3, if_neg c_4, if_neg c_5, if_neg c_6, if_neg c_7, if_neg c_8, if_pos c_11]
                    exact W.iret (v := (f_X8_standMany to st pe.toNatClampNeg)) hx hb hr (fun t ht hW => ⟨(f_X8_standMany to st pe.toNatClampNeg), rfl, hf.symm, ht⟩) (fun _ h => by cases h) dX8_person_159
                  · by_cases c_12 : wh = nI 8
                    · refine lv_tableIn (off := 148) (tgt := 160) hx hb dX8_person_12 (by rw [c_12]; decide) (by rw [c_12]; decide) (by rw [c_12]; decide) (by decide) ?_
                      refine lv_aload_n hx hb dX8_person_160 rfl (lv_at hl 0 rfl) ?_
                      refine lv_iload_n hx hb dX8_person_161 rfl (lv_at hl 1 rfl) ?_
                      refine vp_callSi (va_Run.run (va_runV (As := [.int (nI pe.toNatClampNeg)]) (rest := []) ⟨hx, hb, hml, hown, hts⟩ (c_X8_fineOf l D cI cL cZ ad A to st mt rd un kp rw se pe.toNatClampNeg (by first | assumption | omega) (by first | assumption | omega)) (cwV 1 hts gX8_person_X8_fineOf rfl rfl rfl (by decide +kernel) ⟨Nat.le_of_ble_eq_true rfl, Nat.le_of_ble_eq_true rfl⟩) ⟨sR_fb, va_recv hK hP (ci := 8) (q0 := 0) rfl rfl, sR_at hP hK hD hE⟩ rfl rfl hl.1 rfl (lv_room (Nat.le_of_ble_eq_true rfl)) dX8_person_162 ⟨Nat.zero_le _, Nat.zero_le _⟩)) (fun r hr => ?_)
                      subst hr
                      have hf : (f_X8_person to st pe wh) = (f_X8_fineOf to st pe.toNatClampNeg) := by rw [f_X8_person, if_neg c_1, if_neg c_2, if_neg c_3, if_neg c_4, if_neg c_5, if_neg c_6, if_neg c_7, if_neg c_8, if_neg c_11, if_pos c_12]
                      exact W.iret (v := (f_X8_fineOf to st pe.toNatClampNeg)) hx hb hr (fun t ht hW => ⟨(f_X8_fineOf to st pe.toNatClampNeg), rfl, hf.symm, ht⟩) (fun _ h => by cases h) dX8_person_165
                    · by_cases c_13 : wh = nI 9
                      · refine lv_tableIn (off := 154) (tgt := 166) hx hb dX8_person_12 (by rw [c_13]; decide) (by rw [c_13]; decide) (by rw [c_13]; decide) (by decide) ?_
                        refine lv_aload_n hx hb dX8_person_166 rfl (lv_at hl 0 rfl) ?_
                        refine lv_iload_n hx hb dX8_person_167 rfl (lv_at hl 1 rfl) ?_
                        refine vp_callSi (va_Run.run (va_runV (As := [.int (nI pe.toNatClampNeg)]) (rest := []) ⟨hx, hb, hml, hown, hts⟩ (c_X8_ownMany l D cI cL cZ ad A to st mt rd un kp rw se (nI pe.toNatClampNeg) ) (cwV 1 hts gX8_person_X8_ownMany rfl rfl rfl (by decide +kernel) ⟨Nat.le_of_ble_eq_true rfl, Nat.le_of_ble_eq_true rfl⟩) ⟨sR_fb, va_recv hK hP (ci := 8) (q0 := 0) rfl rfl, sR_at hP hK hD hE⟩ rfl rfl hl.1 rfl (lv_room (Nat.le_of_ble_eq_true rfl)) dX8_person_168 ⟨Nat.zero_le _, Nat.zero_le _⟩)) (fun r hr => ?_)
                        subst hr
                        have hf : (f_X8_person to st pe wh) = (f_X8_ownMany st (nI pe.toNatClampNeg)) := by rw [f_X8_person, if_neg c_1, if_neg c_2, if_neg c_3, if_neg c_4, if_neg c_5, if_neg c_6, if_neg c_7, if_neg c_8, if_neg c_11, if_neg c_12, if_pos c_13]
                        exact W.iret (v := (f_X8_ownMany st (nI pe.toNatClampNeg))) hx hb hr (fun t ht hW => ⟨(f_X8_ownMany st (nI pe.toNatClampNeg)), rfl, hf.symm, ht⟩) (fun _ h => by cases h) dX8_person_171
                      · have w_14 : wh.toInt < 0 ∨ 9 < wh.toInt := by
                          have := lv_neT c_2 (show (nI 0 : Int32).toInt = 0 by decide)
                          have := lv_neT c_3 (show (nI 1 : Int32).toInt = 1 by decide)
                          have := lv_neT c_4 (show (nI 2 : Int32).toInt = 2 by decide)
                          have := lv_neT c_5 (show (nI 3 : Int32).toInt = 3 by decide)
                          have := lv_neT c_6 (show (nI 4 : Int32).toInt = 4 by decide)
                          have := lv_neT c_7 (show (nI 5 : Int32).toInt = 5 by decide)
                          have := lv_neT c_8 (show (nI 6 : Int32).toInt = 6 by decide)
                          have := lv_neT c_11 (show (nI 7 : Int32).toInt = 7 by decide)
                          have := lv_neT c_12 (show (nI 8 : Int32).toInt = 8 by decide)
                          have := lv_neT c_13 (show (nI 9 : Int32).toInt = 9 by decide)
                          omega
                        refine lv_tableOut (tgt := 172) hx hb dX8_person_12 w_14 (by decide) ?_
                        refine lv_bipush (v := (-3)) hx hb dX8_person_172 rfl ?_
                        have hf : (f_X8_person to st pe wh) = (-3 : Int32) := by rw [f_X8_person, if_neg c_1, if_neg c_2, if_neg c_3, if_neg c_4, if_neg c_5, if_neg c_6, if_neg c_7, if_neg c_8, if_neg c_11, if_neg c_12, if_neg c_13]
                        exact W.iret (v := (-3 : Int32)) hx hb hr (fun t ht hW => ⟨(-3 : Int32), rfl, hf.symm, ht⟩) (fun _ h => by cases h) dX8_person_174
  · refine lv_bipush (v := (-2)) hx hb dX8_person_8 rfl ?_
    have hf : (f_X8_person to st pe wh) = (-2 : Int32) := by rw [f_X8_person, if_pos c_1]
    exact W.iret (v := (-2 : Int32)) hx hb hr (fun t ht hW => ⟨(-2 : Int32), rfl, hf.symm, ht⟩) (fun _ h => by cases h) dX8_person_10
def L_X8_second_32 (to : (Nat → Int32)) (st : (Nat → Int32)) (sec : Int32) : Nat → Nat → Int32 → Int32
  | 0, _, x3_32 => x3_32
  | n_32 + 1, k_32, x3_32 => (L_X8_second_32 to st sec n_32 (k_32 + 1) (x3_32 ||| (if (f_X8_standsIn to st k_32 (nI sec.toNatClampNeg)) = 0 then nI 0 else ((nI 1) <<< ((nI k_32) &&& 31)))))
def f_X8_second (to : (Nat → Int32)) (st : (Nat → Int32)) (sec : Int32) (wh : Int32) : Int32 := (if (f_X8_in sec.toInt64 (0 : Int64) (59 : Int64)) = 0 then (-3 : Int32) else (if (f_X8_in wh.toInt64 (0 : Int64) (2 : Int64)) = 0 then (-3 : Int32) else (if wh = 0 then (st sec.toNatClampNeg) else (if wh = nI 1 then (to (85 + sec.toNatClampNeg)) else (L_X8_second_32 to st sec (mN to) 0 (nI 0))))))
abbrev rm_X8_second : Room := { frames := 3, cells := 0, slots := 0, locals := 67 }
set_option maxHeartbeats 4000000 in
set_option maxRecDepth 100000 in
theorem c_X8_second (l : Launch) (D : va_G) (cI cL cZ : ClassId) (ad : Nat → Nat) (A : Nat → Prop) (to : (Nat → Int32)) (st : (Nat → Int32)) (mt : MTx) (rd : (Nat → Int32)) (un : MUn) (kp : MKp) (rw : MKp) (se : MUn) (sec : Int32) (wh : Int32) (hm : to 0 = nI (mN to)) (hm6 : mN to ≤ 6) : Met l yX8_second wsX8_second rm_X8_second (va_Pc [.ref (ad 0), .int sec, .int wh] (sR D cI cL cZ A (mW cI cL cZ ad to st mt rd un kp rw se))) (vp_Si (fun r => r = (f_X8_second to st sec wh))) 0 0 (fun _ => False) := by
  refine Met.ofW (cc := cX8_second) (maxL := 5) (ret := (some .int)) (by decide) rfl ?_
  intro p e s m args below meth c s₁ B hml hv
  obtain ⟨rfl, hP, hK, hD, hE⟩ := hv
  have hx := B.exec
  have hb := B.bytes
  have hr := B.returns
  have hts := atoms_spec (ws := wsX8_second) B.pre
  have hown : s.vm.findClass RX8 = some m.cls := findClass_of_methodNamed B.named
  have hlocks := B.notSynchronized
  have hl := lv_entry ([.ref (ad 0), .int sec, .int wh]) (n := 5) (Nat.le_of_ble_eq_true rfl)
  rw [lg_entry_eq]
  generalize (lg_sl ([.ref (ad 0), .int sec, .int wh]) ++ List.replicate (5 - (lg_sl ([.ref (ad 0), .int sec, .int wh])).length) Slot.unset).toArray = ls at hl ⊢
  have hl : lv_has ls 5 [(0, .ref (ad 0)), (1, .int sec), (2, .int wh)] := hl
  obtain ⟨Q, hQe⟩ : ∃ Q, Q = MQ below (vp_Si (fun r => r = (f_X8_second to st sec wh))) ([.ref (ad 0), .int sec, .int wh] : List Value).toArray s 0 0 (fun _ => False) := ⟨_, rfl⟩
  show W p l e (headSpec wsX8_second rm_X8_second).room s m ([.ref (ad 0), .int sec, .int wh] : List Value).toArray below meth c s.heap [] 0 0 (MQ below (vp_Si (fun r => r = (f_X8_second to st sec wh))) ([.ref (ad 0), .int sec, .int wh] : List Value).toArray s 0 0 (fun _ => False)) (F0 m 0 ls [])
  rw [← hQe]
  refine lv_iload_n hx hb dX8_second_0 rfl (lv_at hl 1 rfl) ?_
  refine lv_i2l hx hb dX8_second_1 rfl ?_
  refine lv_lconst (v := 0) hx hb dX8_second_2 rfl ?_
  refine lv_ldc2 (v := (59)) hx hb hown (hts (.constantLong RX8 157 (59)) (by decide +kernel)) dX8_second_3 ?_
  refine vp_callSi (va_Run.run (va_runS (As := [.long sec.toInt64, .long (0 : Int64), .long (59 : Int64)]) (rest := []) ⟨hx, hb, hml, hown, hts⟩ (c_X8_in l sec.toInt64 (0 : Int64) (59 : Int64) ) (va_cwS 3 hts gX8_second_X8_in rfl rfl rfl (by decide +kernel) ⟨Nat.le_of_ble_eq_true rfl, Nat.le_of_ble_eq_true rfl⟩) ⟨pR_fb, pR_at⟩ rfl rfl hl.1 rfl (lv_room (Nat.le_of_ble_eq_true rfl)) dX8_second_6 ⟨Nat.zero_le _, Nat.zero_le _⟩)) (fun r hr => ?_)
  subst hr
  refine lv_if_eq (tgt := 24) hx hb dX8_second_9 (by decide) (fun c_1 => ?_) (fun c_1 => ?_)
  · refine lv_bipush (v := (-3)) hx hb dX8_second_24 rfl ?_
    subst hQe
    have hf : (f_X8_second to st sec wh) = (-3 : Int32) := by rw [f_X8_second, if_pos c_1]
    exact W.iret (v := (-3 : Int32)) hx hb hr (fun t ht hW => ⟨(-3 : Int32), rfl, hf.symm, ht⟩) (fun _ h => by cases h) dX8_second_26
  · refine lv_iload_n hx hb dX8_second_12 rfl (lv_at hl 2 rfl) ?_
    refine lv_i2l hx hb dX8_second_13 rfl ?_
    refine lv_lconst (v := 0) hx hb dX8_second_14 rfl ?_
    refine lv_ldc2 (v := (2)) hx hb hown (hts (.constantLong RX8 159 (2)) (by decide +kernel)) dX8_second_15 ?_
    refine vp_callSi (va_Run.run (va_runS (As := [.long wh.toInt64, .long (0 : Int64), .long (2 : Int64)]) (rest := []) ⟨hx, hb, hml, hown, hts⟩ (c_X8_in l wh.toInt64 (0 : Int64) (2 : Int64) ) (va_cwS 3 hts gX8_second_X8_in rfl rfl rfl (by decide +kernel) ⟨Nat.le_of_ble_eq_true rfl, Nat.le_of_ble_eq_true rfl⟩) ⟨pR_fb, pR_at⟩ rfl rfl hl.1 rfl (lv_room (Nat.le_of_ble_eq_true rfl)) dX8_second_18 ⟨Nat.zero_le _, Nat.zero_le _⟩)) (fun r hr => ?_)
    subst hr
    refine lv_if_ne (tgt := 27) hx hb dX8_second_21 (by decide) (fun c_2 => ?_) (fun c_2 => ?_)
    · have hsl : sec.toNatClampNeg < 60 := in_lt (by decide) c_1
      have hl : lv_has ls 5 [(0, .ref (ad 0)), (1, .int (nI sec.toNatClampNeg)), (2, .int wh)] := by have h9 := hl; rw [in_nat c_1] at h9; exact h9
      refine lv_iconst (v := nI 0) hx hb dX8_second_27 rfl ?_
      refine lv_istore_n (lv' := [(3, .int (nI 0)), (0, .ref (ad 0)), (1, .int (nI sec.toNatClampNeg)), (2, .int wh)]) hx hb dX8_second_28 rfl hl (by decide) rfl (fun ls hl => ?_)
      refine lv_iconst (v := nI 0) hx hb dX8_second_29 rfl ?_
      refine lv_istore (lv' := [(4, .int (nI 0)), (3, .int (nI 0)), (0, .ref (ad 0)), (1, .int (nI sec.toNatClampNeg)), (2, .int wh)]) hx hb dX8_second_30 hl (by decide) rfl (fun ls hl => ?_)
      obtain ⟨T_32_1, hT_32_1⟩ : ∃ z, z = (L_X8_second_32 to st sec (mN to) 0 (nI 0)) := ⟨_, rfl⟩
      have hexit_32 : ∀ (ls : Array Slot), lv_has ls 5 [(3, .int T_32_1), (0, .ref (ad 0)), (1, .int (nI sec.toNatClampNeg)), (2, .int wh)] → W p l e (headSpec wsX8_second rm_X8_second).room s m ([.ref (ad 0), .int sec, .int wh] : List Value).toArray below meth c s.heap [] 0 0 Q (F0 m 70 ls []) := by
        intro ls hl
        refine lv_iload_n hx hb dX8_second_70 rfl (lv_at hl 3 rfl) ?_
        refine mv_phi (v := (if wh = 0 then (st sec.toNatClampNeg) else (if wh = nI 1 then (to (85 + sec.toNatClampNeg)) else T_32_1))) (pcj := 101) (ls := ls) (rest' := []) ?_ (fun J_7 => ?_)
        · subst hQe
          have hf : (f_X8_second to st sec wh) = (if wh = 0 then (st sec.toNatClampNeg) else (if wh = nI 1 then (to (85 + sec.toNatClampNeg)) else T_32_1)) := by subst hT_32_1; rw [f_X8_second, if_neg c_1, if_neg c_2]
          exact W.iret (v := (if wh = 0 then (st sec.toNatClampNeg) else (if wh = nI 1 then (to (85 + sec.toNatClampNeg)) else T_32_1))) hx hb hr (fun t ht hW => ⟨(if wh = 0 then (st sec.toNatClampNeg) else (if wh = nI 1 then (to (85 + sec.toNatClampNeg)) else T_32_1)), rfl, hf.symm, ht⟩) (fun _ h => by cases h) dX8_second_101
        · refine lv_if_ne (tgt := 83) hx hb dX8_second_71 (by decide) (fun c_8 => ?_) (fun c_8 => ?_)
          · refine lv_iload_n hx hb dX8_second_83 rfl (lv_at hl 3 rfl) ?_
            refine lv_iconst (v := nI 1) hx hb dX8_second_84 rfl ?_
            refine lv_icmp_ne (tgt := 100) hx hb dX8_second_85 (by decide) (fun c_9 => ?_) (fun c_9 => ?_)
            · refine lv_iload_n hx hb dX8_second_100 rfl (lv_at hl 0 rfl) ?_
              exact J_7 _ (by rw [if_neg c_8, if_neg c_9])
            · refine lv_aload_n hx hb dX8_second_88 rfl (lv_at hl 1 rfl) ?_
              refine va_get (D := D) (ci := 8) (v := .ref (ad 1)) (C := RX8) (T := TX8) (N := 18) hx hb hts (by decide +kernel) hown hK hP 0 rfl rfl 0 (by decide) (hts (.fieldLink RX8 7 "SummitTimeModel" "told" "[I") (by decide +kernel)) (fun _ h9 => h9) rfl dX8_second_89 ?_
              refine lv_bipush (v := nI 85) hx hb dX8_second_92 rfl ?_
              refine lv_iload_n hx hb dX8_second_94 rfl (lv_at hl 2 rfl) ?_
              refine mv_iadd hx hb dX8_second_95 ?_
              refine mv_iald (f := to) hx hb hK hP 1 0 rfl rfl (by omega) (by decide) dX8_second_96 ?_
              refine lv_goto (tgt := 101) hx hb dX8_second_97 (by decide) ?_
              exact J_7 _ (by rw [if_neg c_8, if_pos c_9])
          · refine lv_aload_n hx hb dX8_second_74 rfl (lv_at hl 1 rfl) ?_
            refine va_get (D := D) (ci := 8) (v := .ref (ad 2)) (C := RX8) (T := TX8) (N := 18) hx hb hts (by decide +kernel) hown hK hP 0 rfl rfl 1 (by decide) (hts (.fieldLink RX8 13 "SummitTimeModel" "st" "[I") (by decide +kernel)) (fun _ h9 => h9) rfl dX8_second_75 ?_
            refine lv_iload_n hx hb dX8_second_78 rfl (lv_at hl 2 rfl) ?_
            refine mv_iald (f := st) hx hb hK hP 2 0 rfl rfl (by omega) (by decide) dX8_second_79 ?_
            refine lv_goto (tgt := 101) hx hb dX8_second_80 (by decide) ?_
            exact J_7 _ (by rw [if_pos c_8])
      have loop_32 : ∀ (n_32 : Nat) (k_32 : Nat) (x3_32 : Int32), (k_32 + n_32 = mN to) → L_X8_second_32 to st sec n_32 k_32 x3_32 = T_32_1 → ∀ (ls : Array Slot), lv_has ls 5 [(4, .int (nI k_32)), (3, .int x3_32), (0, .ref (ad 0)), (1, .int (nI sec.toNatClampNeg)), (2, .int wh)] → W p l e (headSpec wsX8_second rm_X8_second).room s m ([.ref (ad 0), .int sec, .int wh] : List Value).toArray below meth c s.heap [] 0 0 Q (F0 m 32 ls []) := by
        intro n_32
        induction n_32 with
        | zero =>
          intro k_32 x3_32 hk_32 hL_32 ls hl
          refine lv_iload hx hb dX8_second_32 (lv_at hl 0 rfl) ?_
          refine lv_aload_n hx hb dX8_second_34 rfl (lv_at hl 2 rfl) ?_
          refine va_get (D := D) (ci := 8) (v := .ref (ad 1)) (C := RX8) (T := TX8) (N := 18) hx hb hts (by decide +kernel) hown hK hP 0 rfl rfl 0 (by decide) (hts (.fieldLink RX8 7 "SummitTimeModel" "told" "[I") (by decide +kernel)) (fun _ h9 => h9) rfl dX8_second_35 ?_
          refine lv_iconst (v := nI 0) hx hb dX8_second_38 rfl ?_
          refine mv_iald (f := to) hx hb hK hP 1 0 rfl rfl (by decide) (by decide) dX8_second_39 ?_
          refine mv_top (y := nI (mN to)) hm ?_
          refine mv_icmp_ge (tgt := 70) hx hb dX8_second_40 (by decide) (by omega) (by omega) (fun c_6 => ?_) (fun c_6 => (by omega : False).elim)
          have e9 : T_32_1 = x3_32 := by rw [← hL_32, L_X8_second_32]
          have hq := hexit_32
          rw [e9] at hq
          exact hq ls  (lv_sub hl [1, 2, 3, 4] rfl)
        | succ n_32 ih_32 =>
          intro k_32 x3_32 hk_32 hL_32 ls hl
          refine lv_iload hx hb dX8_second_32 (lv_at hl 0 rfl) ?_
          refine lv_aload_n hx hb dX8_second_34 rfl (lv_at hl 2 rfl) ?_
          refine va_get (D := D) (ci := 8) (v := .ref (ad 1)) (C := RX8) (T := TX8) (N := 18) hx hb hts (by decide +kernel) hown hK hP 0 rfl rfl 0 (by decide) (hts (.fieldLink RX8 7 "SummitTimeModel" "told" "[I") (by decide +kernel)) (fun _ h9 => h9) rfl dX8_second_35 ?_
          refine lv_iconst (v := nI 0) hx hb dX8_second_38 rfl ?_
          refine mv_iald (f := to) hx hb hK hP 1 0 rfl rfl (by decide) (by decide) dX8_second_39 ?_
          refine mv_top (y := nI (mN to)) hm ?_
          refine mv_icmp_ge (tgt := 70) hx hb dX8_second_40 (by decide) (by omega) (by omega) (fun c_3 => (by omega : False).elim) (fun c_3 => ?_)
          refine lv_iload_n hx hb dX8_second_43 rfl (lv_at hl 1 rfl) ?_
          refine lv_aload_n hx hb dX8_second_44 rfl (lv_at hl 2 rfl) ?_
          refine lv_iload hx hb dX8_second_45 (lv_at hl 0 rfl) ?_
          refine lv_iload_n hx hb dX8_second_47 rfl (lv_at hl 3 rfl) ?_
          refine vp_callSi (va_Run.run (va_runV (As := [.int (nI k_32), .int (nI sec.toNatClampNeg)]) (rest := [.int x3_32]) ⟨hx, hb, hml, hown, hts⟩ (c_X8_standsIn l D cI cL cZ ad A to st mt rd un kp rw se k_32 (nI sec.toNatClampNeg) (by first | assumption | omega)) (cwV 2 hts gX8_second_X8_standsIn rfl rfl rfl (by decide +kernel) ⟨Nat.le_of_ble_eq_true rfl, Nat.le_of_ble_eq_true rfl⟩) ⟨sR_fb, va_recv hK hP (ci := 8) (q0 := 0) rfl rfl, sR_at hP hK hD hE⟩ rfl rfl hl.1 rfl (lv_room (Nat.le_of_ble_eq_true rfl)) dX8_second_48 ⟨Nat.zero_le _, Nat.zero_le _⟩)) (fun r hr => ?_)
          subst hr
          refine mv_phi (v := (if (f_X8_standsIn to st k_32 (nI sec.toNatClampNeg)) = 0 then nI 0 else ((nI 1) <<< ((nI k_32) &&& 31)))) (pcj := 62) (ls := ls) (rest' := [.int x3_32]) ?_ (fun J_4 => ?_)
          · refine lv_ior hx hb dX8_second_62 ?_
            refine lv_istore_n (lv' := [(3, .int (x3_32 ||| (if (f_X8_standsIn to st k_32 (nI sec.toNatClampNeg)) = 0 then nI 0 else ((nI 1) <<< ((nI k_32) &&& 31))))), (4, .int (nI k_32)), (0, .ref (ad 0)), (1, .int (nI sec.toNatClampNeg)), (2, .int wh)]) hx hb dX8_second_63 rfl hl (by decide) rfl (fun ls hl => ?_)
            refine mv_iinc (y := k_32 + 1) (lv' := [(4, .int (nI (k_32 + 1))), (3, .int (x3_32 ||| (if (f_X8_standsIn to st k_32 (nI sec.toNatClampNeg)) = 0 then nI 0 else ((nI 1) <<< ((nI k_32) &&& 31))))), (0, .ref (ad 0)), (1, .int (nI sec.toNatClampNeg)), (2, .int wh)]) hx hb dX8_second_64 hl (k := 1) rfl (nI_p1 _) (by decide) rfl (fun ls hl => ?_)
            refine lv_goto (tgt := 32) hx hb dX8_second_67 (by decide) ?_
            exact ih_32 (k_32 + 1) (x3_32 ||| (if (f_X8_standsIn to st k_32 (nI sec.toNatClampNeg)) = 0 then nI 0 else ((nI 1) <<< ((nI k_32) &&& 31)))) (by omega) (by have e9 := hL_32; rw [L_X8_second_32] at e9; exact e9) ls (lv_sub hl [0, 1, 2, 3, 4] rfl)
          · refine lv_if_eq (tgt := 61) hx hb dX8_second_51 (by decide) (fun c_5 => ?_) (fun c_5 => ?_)
            · refine lv_iconst (v := nI 0) hx hb dX8_second_61 rfl ?_
              exact J_4 _ (by rw [if_pos c_5])
            · refine lv_iconst (v := nI 1) hx hb dX8_second_54 rfl ?_
              refine lv_iload hx hb dX8_second_55 (lv_at hl 0 rfl) ?_
              refine lv_ishl hx hb dX8_second_57 ?_
              refine lv_goto (tgt := 62) hx hb dX8_second_58 (by decide) ?_
              exact J_4 _ (by rw [if_neg c_5])
      exact loop_32 (mN to) 0 (nI 0) (by omega) hT_32_1.symm ls (lv_sub hl [0, 1, 2, 3, 4] rfl)
    · refine lv_bipush (v := (-3)) hx hb dX8_second_24 rfl ?_
      subst hQe
      have hf : (f_X8_second to st sec wh) = (-3 : Int32) := by rw [f_X8_second, if_neg c_1, if_pos c_2]
      exact W.iret (v := (-3 : Int32)) hx hb hr (fun t ht hW => ⟨(-3 : Int32), rfl, hf.symm, ht⟩) (fun _ h => by cases h) dX8_second_26
def f_X8_as (to : (Nat → Int32)) (pe : Int32) (ki : Int32) : Int32 := (if (f_X8_isPerson to pe) = 0 then (-2 : Int32) else (if (f_X8_in ki.toInt64 (0 : Int64) (4 : Int64)) = 0 then (-3 : Int32) else (if (if ki = 0 then nI 1 else (if ki = nI 1 then (if (to (1 + pe.toNatClampNeg)) < nI 3 then nI 1 else (if ki ≤ nI 1 then nI 0 else (if (to (1 + pe.toNatClampNeg)) = (ki - (nI 1)) then nI 1 else nI 0))) else (if ki ≤ nI 1 then nI 0 else (if (to (1 + pe.toNatClampNeg)) = (ki - (nI 1)) then nI 1 else nI 0)))) = 0 then (-4 : Int32) else (((nI 100) * (f_X8_costOf to pe.toNatClampNeg)) + (f_X8_walkOf to pe.toNatClampNeg)))))
abbrev rm_X8_as : Room := { frames := 2, cells := 0, slots := 0, locals := 46 }
set_option maxHeartbeats 4000000 in
set_option maxRecDepth 100000 in
theorem c_X8_as (l : Launch) (D : va_G) (cI cL cZ : ClassId) (ad : Nat → Nat) (A : Nat → Prop) (to : (Nat → Int32)) (st : (Nat → Int32)) (mt : MTx) (rd : (Nat → Int32)) (un : MUn) (kp : MKp) (rw : MKp) (se : MUn) (pe : Int32) (ki : Int32) (hm : to 0 = nI (mN to)) (hm6 : mN to ≤ 6) : Met l yX8_as wsX8_as rm_X8_as (va_Pc [.ref (ad 0), .int pe, .int ki] (sR D cI cL cZ A (mW cI cL cZ ad to st mt rd un kp rw se))) (vp_Si (fun r => r = (f_X8_as to pe ki))) 0 0 (fun _ => False) := by
  refine Met.ofW (cc := cX8_as) (maxL := 5) (ret := (some .int)) (by decide) rfl ?_
  intro p e s m args below meth c s₁ B hml hv
  obtain ⟨rfl, hP, hK, hD, hE⟩ := hv
  have hx := B.exec
  have hb := B.bytes
  have hr := B.returns
  have hts := atoms_spec (ws := wsX8_as) B.pre
  have hown : s.vm.findClass RX8 = some m.cls := findClass_of_methodNamed B.named
  have hlocks := B.notSynchronized
  have hl := lv_entry ([.ref (ad 0), .int pe, .int ki]) (n := 5) (Nat.le_of_ble_eq_true rfl)
  rw [lg_entry_eq]
  generalize (lg_sl ([.ref (ad 0), .int pe, .int ki]) ++ List.replicate (5 - (lg_sl ([.ref (ad 0), .int pe, .int ki])).length) Slot.unset).toArray = ls at hl ⊢
  have hl : lv_has ls 5 [(0, .ref (ad 0)), (1, .int pe), (2, .int ki)] := hl
  refine lv_aload_n hx hb dX8_as_0 rfl (lv_at hl 0 rfl) ?_
  refine lv_iload_n hx hb dX8_as_1 rfl (lv_at hl 1 rfl) ?_
  refine vp_callSi (va_Run.run (va_runV (As := [.int pe]) (rest := []) ⟨hx, hb, hml, hown, hts⟩ (c_X8_isPerson l D cI cL cZ ad A to st mt rd un kp rw se pe (by first | assumption | omega) (by first | assumption | omega)) (cwV 1 hts gX8_as_X8_isPerson rfl rfl rfl (by decide +kernel) ⟨Nat.le_of_ble_eq_true rfl, Nat.le_of_ble_eq_true rfl⟩) ⟨sR_fb, va_recv hK hP (ci := 8) (q0 := 0) rfl rfl, sR_at hP hK hD hE⟩ rfl rfl hl.1 rfl (lv_room (Nat.le_of_ble_eq_true rfl)) dX8_as_2 ⟨Nat.zero_le _, Nat.zero_le _⟩)) (fun r hr => ?_)
  subst hr
  refine lv_if_ne (tgt := 11) hx hb dX8_as_5 (by decide) (fun c_1 => ?_) (fun c_1 => ?_)
  · have hpl : pe.toNatClampNeg < mN to := isP_lt hm6 c_1
    have hl : lv_has ls 5 [(0, .ref (ad 0)), (1, .int (nI pe.toNatClampNeg)), (2, .int ki)] := by have h9 := hl; rw [isP_nat c_1] at h9; exact h9
    refine lv_iload_n hx hb dX8_as_11 rfl (lv_at hl 2 rfl) ?_
    refine lv_i2l hx hb dX8_as_12 rfl ?_
    refine lv_lconst (v := 0) hx hb dX8_as_13 rfl ?_
    refine lv_ldc2 (v := (4)) hx hb hown (hts (.constantLong RX8 161 (4)) (by decide +kernel)) dX8_as_14 ?_
    refine vp_callSi (va_Run.run (va_runS (As := [.long ki.toInt64, .long (0 : Int64), .long (4 : Int64)]) (rest := []) ⟨hx, hb, hml, hown, hts⟩ (c_X8_in l ki.toInt64 (0 : Int64) (4 : Int64) ) (va_cwS 3 hts gX8_as_X8_in rfl rfl rfl (by decide +kernel) ⟨Nat.le_of_ble_eq_true rfl, Nat.le_of_ble_eq_true rfl⟩) ⟨pR_fb, pR_at⟩ rfl rfl hl.1 rfl (lv_room (Nat.le_of_ble_eq_true rfl)) dX8_as_17 ⟨Nat.zero_le _, Nat.zero_le _⟩)) (fun r hr => ?_)
    subst hr
    refine lv_if_ne (tgt := 26) hx hb dX8_as_20 (by decide) (fun c_2 => ?_) (fun c_2 => ?_)
    · refine lv_aload_n hx hb dX8_as_26 rfl (lv_at hl 0 rfl) ?_
      refine va_get (D := D) (ci := 8) (v := .ref (ad 1)) (C := RX8) (T := TX8) (N := 18) hx hb hts (by decide +kernel) hown hK hP 0 rfl rfl 0 (by decide) (hts (.fieldLink RX8 7 "SummitTimeModel" "told" "[I") (by decide +kernel)) (fun _ h9 => h9) rfl dX8_as_27 ?_
      refine lv_iconst (v := nI 1) hx hb dX8_as_30 rfl ?_
      refine lv_iload_n hx hb dX8_as_31 rfl (lv_at hl 1 rfl) ?_
      refine mv_iadd hx hb dX8_as_32 ?_
      refine mv_iald (f := to) hx hb hK hP 1 0 rfl rfl (by omega) (by decide) dX8_as_33 ?_
      refine lv_istore_n (lv' := [(3, .int (to (1 + pe.toNatClampNeg))), (0, .ref (ad 0)), (1, .int (nI pe.toNatClampNeg)), (2, .int ki)]) hx hb dX8_as_34 rfl hl (by decide) rfl (fun ls hl => ?_)
      refine lv_iload_n hx hb dX8_as_35 rfl (lv_at hl 3 rfl) ?_
      refine mv_phi (v := (if ki = 0 then nI 1 else (if ki = nI 1 then (if (to (1 + pe.toNatClampNeg)) < nI 3 then nI 1 else (if ki ≤ nI 1 then nI 0 else (if (to (1 + pe.toNatClampNeg)) = (ki - (nI 1)) then nI 1 else nI 0))) else (if ki ≤ nI 1 then nI 0 else (if (to (1 + pe.toNatClampNeg)) = (ki - (nI 1)) then nI 1 else nI 0))))) (pcj := 66) (ls := ls) (rest' := []) ?_ (fun J_5 => ?_)
      · refine lv_istore (lv' := [(4, .int (if ki = 0 then nI 1 else (if ki = nI 1 then (if (to (1 + pe.toNatClampNeg)) < nI 3 then nI 1 else (if ki ≤ nI 1 then nI 0 else (if (to (1 + pe.toNatClampNeg)) = (ki - (nI 1)) then nI 1 else nI 0))) else (if ki ≤ nI 1 then nI 0 else (if (to (1 + pe.toNatClampNeg)) = (ki - (nI 1)) then nI 1 else nI 0))))), (3, .int (to (1 + pe.toNatClampNeg))), (0, .ref (ad 0)), (1, .int (nI pe.toNatClampNeg)), (2, .int ki)]) hx hb dX8_as_66 hl (by decide) rfl (fun ls hl => ?_)
        refine lv_iload hx hb dX8_as_68 (lv_at hl 0 rfl) ?_
        refine mv_phi (v := (if (if ki = 0 then nI 1 else (if ki = nI 1 then (if (to (1 + pe.toNatClampNeg)) < nI 3 then nI 1 else (if ki ≤ nI 1 then nI 0 else (if (to (1 + pe.toNatClampNeg)) = (ki - (nI 1)) then nI 1 else nI 0))) else (if ki ≤ nI 1 then nI 0 else (if (to (1 + pe.toNatClampNeg)) = (ki - (nI 1)) then nI 1 else nI 0)))) = 0 then (-4 : Int32) else (((nI 100) * (f_X8_costOf to pe.toNatClampNeg)) + (f_X8_walkOf to pe.toNatClampNeg)))) (pcj := 92) (ls := ls) (rest' := []) ?_ (fun J_3 => ?_)
        · have hf : (f_X8_as to pe ki) = (if (if ki = 0 then nI 1 else (if ki = nI 1 then (if (to (1 + pe.toNatClampNeg)) < nI 3 then nI 1 else (if ki ≤ nI 1 then nI 0 else (if (to (1 + pe.toNatClampNeg)) = (ki - (nI 1)) then nI 1 else nI 0))) else (if ki ≤ nI 1 then nI 0 else (if (to (1 + pe.toNatClampNeg)) = (ki - (nI 1)) then nI 1 else nI 0)))) = 0 then (-4 : Int32) else (((nI 100) * (f_X8_costOf to pe.toNatClampNeg)) + (f_X8_walkOf to pe.toNatClampNeg))) := by rw [f_X8_as, if_neg c_1, if_neg c_2]
          exact W.iret (v := (if (if ki = 0 then nI 1 else (if ki = nI 1 then (if (to (1 + pe.toNatClampNeg)) < nI 3 then nI 1 else (if ki ≤ nI 1 then nI 0 else (if (to (1 + pe.toNatClampNeg)) = (ki - (nI 1)) then nI 1 else nI 0))) else (if ki ≤ nI 1 then nI 0 else (if (to (1 + pe.toNatClampNeg)) = (ki - (nI 1)) then nI 1 else nI 0)))) = 0 then (-4 : Int32) else (((nI 100) * (f_X8_costOf to pe.toNatClampNeg)) + (f_X8_walkOf to pe.toNatClampNeg)))) hx hb hr (fun t ht hW => ⟨(if (if ki = 0 then nI 1 else (if ki = nI 1 then (if (to (1 + pe.toNatClampNeg)) < nI 3 then nI 1 else (if ki ≤ nI 1 then nI 0 else (if (to (1 + pe.toNatClampNeg)) = (ki - (nI 1)) then nI 1 else nI 0))) else (if ki ≤ nI 1 then nI 0 else (if (to (1 + pe.toNatClampNeg)) = (ki - (nI 1)) then nI 1 else nI 0)))) = 0 then (-4 : Int32) else (((nI 100) * (f_X8_costOf to pe.toNatClampNeg)) + (f_X8_walkOf to pe.toNatClampNeg))), rfl, hf.symm, ht⟩) (fun _ h => by cases h) dX8_as_92
        · refine lv_if_eq (tgt := 90) hx hb dX8_as_70 (by decide) (fun c_4 => ?_) (fun c_4 => ?_)
          · refine lv_bipush (v := (-4)) hx hb dX8_as_90 rfl ?_
            exact J_3 _ (by rw [if_pos c_4])
          · refine lv_bipush (v := nI 100) hx hb dX8_as_73 rfl ?_
            refine lv_aload_n hx hb dX8_as_75 rfl (lv_at hl 2 rfl) ?_
            refine lv_iload_n hx hb dX8_as_76 rfl (lv_at hl 3 rfl) ?_
            refine vp_callSi (va_Run.run (va_runV (As := [.int (nI pe.toNatClampNeg)]) (rest := [.int (nI 100)]) ⟨hx, hb, hml, hown, hts⟩ (c_X8_costOf l D cI cL cZ ad A to st mt rd un kp rw se pe.toNatClampNeg (by first | assumption | omega)) (cwV 1 hts gX8_as_X8_costOf rfl rfl rfl (by decide +kernel) ⟨Nat.le_of_ble_eq_true rfl, Nat.le_of_ble_eq_true rfl⟩) ⟨sR_fb, va_recv hK hP (ci := 8) (q0 := 0) rfl rfl, sR_at hP hK hD hE⟩ rfl rfl hl.1 rfl (lv_room (Nat.le_of_ble_eq_true rfl)) dX8_as_77 ⟨Nat.zero_le _, Nat.zero_le _⟩)) (fun r hr => ?_)
            subst hr
            refine lv_imul hx hb dX8_as_80 ?_
            refine lv_aload_n hx hb dX8_as_81 rfl (lv_at hl 2 rfl) ?_
            refine lv_iload_n hx hb dX8_as_82 rfl (lv_at hl 3 rfl) ?_
            refine vp_callSi (va_Run.run (va_runV (As := [.int (nI pe.toNatClampNeg)]) (rest := [.int ((nI 100) * (f_X8_costOf to pe.toNatClampNeg))]) ⟨hx, hb, hml, hown, hts⟩ (c_X8_walkOf l D cI cL cZ ad A to st mt rd un kp rw se pe.toNatClampNeg (by first | assumption | omega)) (cwV 1 hts gX8_as_X8_walkOf rfl rfl rfl (by decide +kernel) ⟨Nat.le_of_ble_eq_true rfl, Nat.le_of_ble_eq_true rfl⟩) ⟨sR_fb, va_recv hK hP (ci := 8) (q0 := 0) rfl rfl, sR_at hP hK hD hE⟩ rfl rfl hl.1 rfl (lv_room (Nat.le_of_ble_eq_true rfl)) dX8_as_83 ⟨Nat.zero_le _, Nat.zero_le _⟩)) (fun r hr => ?_)
            subst hr
            refine lv_iadd hx hb dX8_as_86 ?_
            refine lv_goto (tgt := 92) hx hb dX8_as_87 (by decide) ?_
            exact J_3 _ (by rw [if_neg c_4])
      · refine lv_if_eq (tgt := 61) hx hb dX8_as_36 (by decide) (fun c_6 => ?_) (fun c_6 => ?_)
        · refine lv_iconst (v := nI 1) hx hb dX8_as_61 rfl ?_
          refine lv_goto (tgt := 66) hx hb dX8_as_62 (by decide) ?_
          exact J_5 _ (by rw [if_pos c_6])
        · refine lv_iload_n hx hb dX8_as_39 rfl (lv_at hl 3 rfl) ?_
          refine lv_iconst (v := nI 1) hx hb dX8_as_40 rfl ?_
          refine lv_icmp_ne (tgt := 49) hx hb dX8_as_41 (by decide) (fun c_7 => ?_) (fun c_7 => ?_)
          · refine lv_iload_n hx hb dX8_as_49 rfl (lv_at hl 3 rfl) ?_
            refine lv_iconst (v := nI 1) hx hb dX8_as_50 rfl ?_
            refine lv_icmp_le (tgt := 65) hx hb dX8_as_51 (by decide) (fun c_8 => ?_) (fun c_8 => ?_)
            · refine lv_iconst (v := nI 0) hx hb dX8_as_65 rfl ?_
              exact J_5 _ (by rw [if_neg c_6, if_neg c_7, if_pos c_8])
            · refine lv_iload_n hx hb dX8_as_54 rfl (lv_at hl 0 rfl) ?_
              refine lv_iload_n hx hb dX8_as_55 rfl (lv_at hl 3 rfl) ?_
              refine lv_iconst (v := nI 1) hx hb dX8_as_56 rfl ?_
              refine lv_isub hx hb dX8_as_57 ?_
              refine lv_icmp_ne (tgt := 65) hx hb dX8_as_58 (by decide) (fun c_9 => ?_) (fun c_9 => ?_)
              · refine lv_iconst (v := nI 0) hx hb dX8_as_65 rfl ?_
                exact J_5 _ (by rw [if_neg c_6, if_neg c_7, if_neg c_8, if_neg c_9])
              · refine lv_iconst (v := nI 1) hx hb dX8_as_61 rfl ?_
                refine lv_goto (tgt := 66) hx hb dX8_as_62 (by decide) ?_
                exact J_5 _ (by rw [if_neg c_6, if_neg c_7, if_neg c_8, if_pos c_9])
          · refine lv_iload_n hx hb dX8_as_44 rfl (lv_at hl 0 rfl) ?_
            refine lv_iconst (v := nI 3) hx hb dX8_as_45 rfl ?_
            refine lv_icmp_lt (tgt := 61) hx hb dX8_as_46 (by decide) (fun c_10 => ?_) (fun c_10 => ?_)
            · refine lv_iconst (v := nI 1) hx hb dX8_as_61 rfl ?_
              refine lv_goto (tgt := 66) hx hb dX8_as_62 (by decide) ?_
              exact J_5 _ (by rw [if_neg c_6, if_pos c_7, if_pos c_10])
            · refine lv_iload_n hx hb dX8_as_49 rfl (lv_at hl 3 rfl) ?_
              refine lv_iconst (v := nI 1) hx hb dX8_as_50 rfl ?_
              refine lv_icmp_le (tgt := 65) hx hb dX8_as_51 (by decide) (fun c_11 => ?_) (fun c_11 => ?_)
              · refine lv_iconst (v := nI 0) hx hb dX8_as_65 rfl ?_
                exact J_5 _ (by rw [if_neg c_6, if_pos c_7, if_neg c_10, if_pos c_11])
              · refine lv_iload_n hx hb dX8_as_54 rfl (lv_at hl 0 rfl) ?_
                refine lv_iload_n hx hb dX8_as_55 rfl (lv_at hl 3 rfl) ?_
                refine lv_iconst (v := nI 1) hx hb dX8_as_56 rfl ?_
                refine lv_isub hx hb dX8_as_57 ?_
                refine lv_icmp_ne (tgt := 65) hx hb dX8_as_58 (by decide) (fun c_12 => ?_) (fun c_12 => ?_)
                · refine lv_iconst (v := nI 0) hx hb dX8_as_65 rfl ?_
                  exact J_5 _ (by rw [if_neg c_6, if_pos c_7, if_neg c_10, if_neg c_11, if_neg c_12])
                · refine lv_iconst (v := nI 1) hx hb dX8_as_61 rfl ?_
                  refine lv_goto (tgt := 66) hx hb dX8_as_62 (by decide) ?_
                  exact J_5 _ (by rw [if_neg c_6, if_pos c_7, if_neg c_10, if_neg c_11, if_pos c_12])
    · refine lv_bipush (v := (-3)) hx hb dX8_as_23 rfl ?_
      have hf : (f_X8_as to pe ki) = (-3 : Int32) := by rw [f_X8_as, if_neg c_1, if_pos c_2]
      exact W.iret (v := (-3 : Int32)) hx hb hr (fun t ht hW => ⟨(-3 : Int32), rfl, hf.symm, ht⟩) (fun _ h => by cases h) dX8_as_25
  · refine lv_bipush (v := (-2)) hx hb dX8_as_8 rfl ?_
    have hf : (f_X8_as to pe ki) = (-2 : Int32) := by rw [f_X8_as, if_pos c_1]
    exact W.iret (v := (-2 : Int32)) hx hb hr (fun t ht hW => ⟨(-2 : Int32), rfl, hf.symm, ht⟩) (fun _ h => by cases h) dX8_as_10
def f_X8_start (to : (Nat → Int32)) (st : (Nat → Int32)) (un : MUn) (pe : Int32) (sec : Int32) : Int32 × (Nat → Int32) × MUn := (if (f_X8_isPerson to pe) = 0 then ((-2 : Int32), st, un) else (if (f_X8_in sec.toInt64 (0 : Int64) (59 : Int64)) = 0 then ((-3 : Int32), st, un) else ((f_X8_thereBy to (upd st (60 + pe.toNatClampNeg) sec) pe.toNatClampNeg sec), (upd st (60 + pe.toNatClampNeg) sec), (f_X8_note st un))))
abbrev rm_X8_start : Room := { frames := 2, cells := 0, slots := 0, locals := 46 }
set_option maxHeartbeats 4000000 in
set_option maxRecDepth 100000 in
theorem c_X8_start (l : Launch) (D : va_G) (cI cL cZ : ClassId) (ad : Nat → Nat) (A : Nat → Prop) (to : (Nat → Int32)) (st : (Nat → Int32)) (mt : MTx) (rd : (Nat → Int32)) (un : MUn) (kp : MKp) (rw : MKp) (se : MUn) (pe : Int32) (sec : Int32) (hm : to 0 = nI (mN to)) (hm6 : mN to ≤ 6) (hun : un.2 ≤ 8) : Met l yX8_start wsX8_start rm_X8_start (va_Pc [.ref (ad 0), .int pe, .int sec] (sR D cI cL cZ A (mW cI cL cZ ad to st mt rd un kp rw se))) (va_Qi (fun (r : Int32) (u : (Nat → Int32) × MUn) => r = (f_X8_start to st un pe sec).1 ∧ u = (f_X8_start to st un pe sec).2) (fun (u : (Nat → Int32) × MUn) t => va_P D vwCl (mW cI cL cZ ad to u.1 mt rd u.2 kp rw se) t.heap) A) 0 0 A := by
  refine Met.ofW (cc := cX8_start) (maxL := 3) (ret := (some .int)) (by decide) rfl ?_
  intro p e s m args below meth c s₁ B hml hv
  obtain ⟨rfl, hP, hK, hD, hE⟩ := hv
  have hx := B.exec
  have hb := B.bytes
  have hr := B.returns
  have hts := atoms_spec (ws := wsX8_start) B.pre
  have hown : s.vm.findClass RX8 = some m.cls := findClass_of_methodNamed B.named
  have hlocks := B.notSynchronized
  have hS : va_S A s.heap s.heap [] := va_S.rf
  have hl := lv_entry ([.ref (ad 0), .int pe, .int sec]) (n := 3) (Nat.le_of_ble_eq_true rfl)
  rw [lg_entry_eq]
  generalize (lg_sl ([.ref (ad 0), .int pe, .int sec]) ++ List.replicate (3 - (lg_sl ([.ref (ad 0), .int pe, .int sec])).length) Slot.unset).toArray = ls at hl ⊢
  have hl : lv_has ls 3 [(0, .ref (ad 0)), (1, .int pe), (2, .int sec)] := hl
  refine lv_aload_n hx hb dX8_start_0 rfl (lv_at hl 0 rfl) ?_
  refine lv_iload_n hx hb dX8_start_1 rfl (lv_at hl 1 rfl) ?_
  refine vp_callSi (va_Run.run (va_runV (As := [.int pe]) (rest := []) ⟨hx, hb, hml, hown, hts⟩ (c_X8_isPerson l D cI cL cZ ad A to st mt rd un kp rw se pe (by first | assumption | omega) (by first | assumption | omega)) (cwV 1 hts gX8_start_X8_isPerson rfl rfl rfl (by decide +kernel) ⟨Nat.le_of_ble_eq_true rfl, Nat.le_of_ble_eq_true rfl⟩) ⟨sR_fb, va_recv hK hP (ci := 8) (q0 := 0) rfl rfl, sR_at hP hK hD hE⟩ rfl rfl hl.1 rfl (lv_room (Nat.le_of_ble_eq_true rfl)) dX8_start_2 ⟨Nat.zero_le _, Nat.zero_le _⟩)) (fun r hr => ?_)
  subst hr
  refine lv_if_ne (tgt := 11) hx hb dX8_start_5 (by decide) (fun c_1 => ?_) (fun c_1 => ?_)
  · have hpl : pe.toNatClampNeg < mN to := isP_lt hm6 c_1
    have hl : lv_has ls 3 [(0, .ref (ad 0)), (1, .int (nI pe.toNatClampNeg)), (2, .int sec)] := by have h9 := hl; rw [isP_nat c_1] at h9; exact h9
    refine lv_iload_n hx hb dX8_start_11 rfl (lv_at hl 2 rfl) ?_
    refine lv_i2l hx hb dX8_start_12 rfl ?_
    refine lv_lconst (v := 0) hx hb dX8_start_13 rfl ?_
    refine lv_ldc2 (v := (59)) hx hb hown (hts (.constantLong RX8 157 (59)) (by decide +kernel)) dX8_start_14 ?_
    refine vp_callSi (va_Run.run (va_runS (As := [.long sec.toInt64, .long (0 : Int64), .long (59 : Int64)]) (rest := []) ⟨hx, hb, hml, hown, hts⟩ (c_X8_in l sec.toInt64 (0 : Int64) (59 : Int64) ) (va_cwS 3 hts gX8_start_X8_in rfl rfl rfl (by decide +kernel) ⟨Nat.le_of_ble_eq_true rfl, Nat.le_of_ble_eq_true rfl⟩) ⟨pR_fb, pR_at⟩ rfl rfl hl.1 rfl (lv_room (Nat.le_of_ble_eq_true rfl)) dX8_start_17 ⟨Nat.zero_le _, Nat.zero_le _⟩)) (fun r hr => ?_)
    subst hr
    refine lv_if_ne (tgt := 26) hx hb dX8_start_20 (by decide) (fun c_2 => ?_) (fun c_2 => ?_)
    · refine lv_aload_n hx hb dX8_start_26 rfl (lv_at hl 0 rfl) ?_
      refine va_callv (va_runV (As := []) (rest := []) ⟨hx, hb, hml, hown, hts⟩ (c_X8_note l D cI cL cZ ad A to st mt rd un kp rw se  (by first | assumption | omega)) (cwV 0 hts gX8_start_X8_note rfl rfl rfl (by decide +kernel) ⟨Nat.le_of_ble_eq_true rfl, Nat.le_of_ble_eq_true rfl⟩) ⟨sR_fb, va_recv hK hP (ci := 8) (q0 := 0) rfl rfl, sR_at hP hK hD hE⟩ rfl rfl hl.1 rfl (lv_room (Nat.le_of_ble_eq_true rfl)) dX8_start_27 ⟨Nat.zero_le _, Nat.zero_le _⟩) hS (fun q _ h => h) (fun q h => h) (fun u t H locs ht hvm hw hB hz1 hk1 hS => ?_)
      subst hw
      rw [ht] at hB
      have hP : va_P D vwCl (mW cI cL cZ ad to st mt rd (f_X8_note st un) kp rw se) H := hB
      have hD : va_D A (mW cI cL cZ ad to st mt rd (f_X8_note st un) kp rw se) := mW_D hD
      refine lv_aload_n hx hb dX8_start_30 rfl (lv_at hl 0 rfl) ?_
      refine va_get (D := D) (ci := 8) (v := .ref (ad 2)) (C := RX8) (T := TX8) (N := 18) hx hb hts (by decide +kernel) hown hK hP 0 rfl rfl 1 (by decide) (hts (.fieldLink RX8 13 "SummitTimeModel" "st" "[I") (by decide +kernel)) (fun _ h9 => h9) rfl dX8_start_31 ?_
      refine lv_bipush (v := nI 60) hx hb dX8_start_34 rfl ?_
      refine lv_iload_n hx hb dX8_start_36 rfl (lv_at hl 1 rfl) ?_
      refine mv_iadd hx hb dX8_start_37 ?_
      refine lv_iload_n hx hb dX8_start_38 rfl (lv_at hl 2 rfl) ?_
      refine mv_iast (f := st) hx hb hK hP hD hS 2 0 rfl rfl (by omega) (by decide) dX8_start_39 (fun H locs hP hD hS => ?_)
      have hP : va_P D vwCl (mW cI cL cZ ad to (upd st (60 + pe.toNatClampNeg) sec) mt rd (f_X8_note st un) kp rw se) H := hP
      have hD : va_D A (mW cI cL cZ ad to (upd st (60 + pe.toNatClampNeg) sec) mt rd (f_X8_note st un) kp rw se) := hD
      refine lv_aload_n hx hb dX8_start_40 rfl (lv_at hl 0 rfl) ?_
      refine lv_iload_n hx hb dX8_start_41 rfl (lv_at hl 1 rfl) ?_
      refine lv_iload_n hx hb dX8_start_42 rfl (lv_at hl 2 rfl) ?_
      refine vp_callSi (va_Run.run (va_runV (As := [.int (nI pe.toNatClampNeg), .int sec]) (rest := []) ⟨hx, hb, hml, hown, hts⟩ (c_X8_thereBy l D cI cL cZ ad A to (upd st (60 + pe.toNatClampNeg) sec) mt rd (f_X8_note st un) kp rw se pe.toNatClampNeg sec (by first | assumption | omega)) (cwV 2 hts gX8_start_X8_thereBy rfl rfl rfl (by decide +kernel) ⟨Nat.le_of_ble_eq_true rfl, Nat.le_of_ble_eq_true rfl⟩) ⟨sR_fb, va_recv hK hP (ci := 8) (q0 := 0) rfl rfl, sR_at hP hK hD hE⟩ rfl rfl hl.1 rfl (lv_room (Nat.le_of_ble_eq_true rfl)) dX8_start_43 ⟨Nat.zero_le _, Nat.zero_le _⟩)) (fun r hr => ?_)
      subst hr
      have hf : (f_X8_start to st un pe sec) = ((f_X8_thereBy to (upd st (60 + pe.toNatClampNeg) sec) pe.toNatClampNeg sec), (upd st (60 + pe.toNatClampNeg) sec), (f_X8_note st un)) := by rw [f_X8_start, if_neg c_1, if_neg c_2]
      exact W.iret (v := (f_X8_thereBy to (upd st (60 + pe.toNatClampNeg) sec) pe.toNatClampNeg sec)) hx hb hr (fun t ht hW => ⟨⟨(f_X8_thereBy to (upd st (60 + pe.toNatClampNeg) sec) pe.toNatClampNeg sec), ((upd st (60 + pe.toNatClampNeg) sec), (f_X8_note st un)), rfl, ⟨(congrArg Prod.fst hf).symm, (congrArg Prod.snd hf).symm⟩, va_Pt ht hP⟩, hS.F ht⟩) hS.2.2 dX8_start_46
    · refine lv_bipush (v := (-3)) hx hb dX8_start_23 rfl ?_
      have hf : (f_X8_start to st un pe sec) = ((-3 : Int32), st, un) := by rw [f_X8_start, if_neg c_1, if_pos c_2]
      exact W.iret (v := (-3 : Int32)) hx hb hr (fun t ht hW => ⟨⟨(-3 : Int32), (st, un), rfl, ⟨(congrArg Prod.fst hf).symm, (congrArg Prod.snd hf).symm⟩, va_Pt ht hP⟩, hS.F ht⟩) hS.2.2 dX8_start_25
  · refine lv_bipush (v := (-2)) hx hb dX8_start_8 rfl ?_
    have hf : (f_X8_start to st un pe sec) = ((-2 : Int32), st, un) := by rw [f_X8_start, if_pos c_1]
    exact W.iret (v := (-2 : Int32)) hx hb hr (fun t ht hW => ⟨⟨(-2 : Int32), (st, un), rfl, ⟨(congrArg Prod.fst hf).symm, (congrArg Prod.snd hf).symm⟩, va_Pt ht hP⟩, hS.F ht⟩) hS.2.2 dX8_start_10
def f_X8_stays (to : (Nat → Int32)) (st : (Nat → Int32)) (un : MUn) (pe : Int32) : Int32 × (Nat → Int32) × MUn := (if (f_X8_isPerson to pe) = 0 then ((-2 : Int32), st, un) else (if 0 ≤ (st (60 + pe.toNatClampNeg)) then ((st (60 + pe.toNatClampNeg)), (upd st (60 + pe.toNatClampNeg) (-1 : Int32)), (f_X8_note st un)) else ((-4 : Int32), st, un)))
abbrev rm_X8_stays : Room := { frames := 2, cells := 0, slots := 0, locals := 46 }
set_option maxHeartbeats 4000000 in
set_option maxRecDepth 100000 in
theorem c_X8_stays (l : Launch) (D : va_G) (cI cL cZ : ClassId) (ad : Nat → Nat) (A : Nat → Prop) (to : (Nat → Int32)) (st : (Nat → Int32)) (mt : MTx) (rd : (Nat → Int32)) (un : MUn) (kp : MKp) (rw : MKp) (se : MUn) (pe : Int32) (hm : to 0 = nI (mN to)) (hm6 : mN to ≤ 6) (hun : un.2 ≤ 8) : Met l yX8_stays wsX8_stays rm_X8_stays (va_Pc [.ref (ad 0), .int pe] (sR D cI cL cZ A (mW cI cL cZ ad to st mt rd un kp rw se))) (va_Qi (fun (r : Int32) (u : (Nat → Int32) × MUn) => r = (f_X8_stays to st un pe).1 ∧ u = (f_X8_stays to st un pe).2) (fun (u : (Nat → Int32) × MUn) t => va_P D vwCl (mW cI cL cZ ad to u.1 mt rd u.2 kp rw se) t.heap) A) 0 0 A := by
  refine Met.ofW (cc := cX8_stays) (maxL := 3) (ret := (some .int)) (by decide) rfl ?_
  intro p e s m args below meth c s₁ B hml hv
  obtain ⟨rfl, hP, hK, hD, hE⟩ := hv
  have hx := B.exec
  have hb := B.bytes
  have hr := B.returns
  have hts := atoms_spec (ws := wsX8_stays) B.pre
  have hown : s.vm.findClass RX8 = some m.cls := findClass_of_methodNamed B.named
  have hlocks := B.notSynchronized
  have hS : va_S A s.heap s.heap [] := va_S.rf
  have hl := lv_entry ([.ref (ad 0), .int pe]) (n := 3) (Nat.le_of_ble_eq_true rfl)
  rw [lg_entry_eq]
  generalize (lg_sl ([.ref (ad 0), .int pe]) ++ List.replicate (3 - (lg_sl ([.ref (ad 0), .int pe])).length) Slot.unset).toArray = ls at hl ⊢
  have hl : lv_has ls 3 [(0, .ref (ad 0)), (1, .int pe)] := hl
  refine lv_aload_n hx hb dX8_stays_0 rfl (lv_at hl 0 rfl) ?_
  refine lv_iload_n hx hb dX8_stays_1 rfl (lv_at hl 1 rfl) ?_
  refine vp_callSi (va_Run.run (va_runV (As := [.int pe]) (rest := []) ⟨hx, hb, hml, hown, hts⟩ (c_X8_isPerson l D cI cL cZ ad A to st mt rd un kp rw se pe (by first | assumption | omega) (by first | assumption | omega)) (cwV 1 hts gX8_stays_X8_isPerson rfl rfl rfl (by decide +kernel) ⟨Nat.le_of_ble_eq_true rfl, Nat.le_of_ble_eq_true rfl⟩) ⟨sR_fb, va_recv hK hP (ci := 8) (q0 := 0) rfl rfl, sR_at hP hK hD hE⟩ rfl rfl hl.1 rfl (lv_room (Nat.le_of_ble_eq_true rfl)) dX8_stays_2 ⟨Nat.zero_le _, Nat.zero_le _⟩)) (fun r hr => ?_)
  subst hr
  refine lv_if_ne (tgt := 11) hx hb dX8_stays_5 (by decide) (fun c_1 => ?_) (fun c_1 => ?_)
  · have hpl : pe.toNatClampNeg < mN to := isP_lt hm6 c_1
    have hl : lv_has ls 3 [(0, .ref (ad 0)), (1, .int (nI pe.toNatClampNeg))] := by have h9 := hl; rw [isP_nat c_1] at h9; exact h9
    refine lv_aload_n hx hb dX8_stays_11 rfl (lv_at hl 0 rfl) ?_
    refine va_get (D := D) (ci := 8) (v := .ref (ad 2)) (C := RX8) (T := TX8) (N := 18) hx hb hts (by decide +kernel) hown hK hP 0 rfl rfl 1 (by decide) (hts (.fieldLink RX8 13 "SummitTimeModel" "st" "[I") (by decide +kernel)) (fun _ h9 => h9) rfl dX8_stays_12 ?_
    refine lv_bipush (v := nI 60) hx hb dX8_stays_15 rfl ?_
    refine lv_iload_n hx hb dX8_stays_17 rfl (lv_at hl 1 rfl) ?_
    refine mv_iadd hx hb dX8_stays_18 ?_
    refine mv_iald (f := st) hx hb hK hP 2 0 rfl rfl (by omega) (by decide) dX8_stays_19 ?_
    refine lv_istore_n (lv' := [(2, .int (st (60 + pe.toNatClampNeg))), (0, .ref (ad 0)), (1, .int (nI pe.toNatClampNeg))]) hx hb dX8_stays_20 rfl hl (by decide) rfl (fun ls hl => ?_)
    refine lv_iload_n hx hb dX8_stays_21 rfl (lv_at hl 0 rfl) ?_
    refine lv_if_ge (tgt := 28) hx hb dX8_stays_22 (by decide) (fun c_2 => ?_) (fun c_2 => ?_)
    · refine lv_aload_n hx hb dX8_stays_28 rfl (lv_at hl 1 rfl) ?_
      refine va_callv (va_runV (As := []) (rest := []) ⟨hx, hb, hml, hown, hts⟩ (c_X8_note l D cI cL cZ ad A to st mt rd un kp rw se  (by first | assumption | omega)) (cwV 0 hts gX8_stays_X8_note rfl rfl rfl (by decide +kernel) ⟨Nat.le_of_ble_eq_true rfl, Nat.le_of_ble_eq_true rfl⟩) ⟨sR_fb, va_recv hK hP (ci := 8) (q0 := 0) rfl rfl, sR_at hP hK hD hE⟩ rfl rfl hl.1 rfl (lv_room (Nat.le_of_ble_eq_true rfl)) dX8_stays_29 ⟨Nat.zero_le _, Nat.zero_le _⟩) hS (fun q _ h => h) (fun q h => h) (fun u t H locs ht hvm hw hB hz1 hk1 hS => ?_)
      subst hw
      rw [ht] at hB
      have hP : va_P D vwCl (mW cI cL cZ ad to st mt rd (f_X8_note st un) kp rw se) H := hB
      have hD : va_D A (mW cI cL cZ ad to st mt rd (f_X8_note st un) kp rw se) := mW_D hD
      refine lv_aload_n hx hb dX8_stays_32 rfl (lv_at hl 1 rfl) ?_
      refine va_get (D := D) (ci := 8) (v := .ref (ad 2)) (C := RX8) (T := TX8) (N := 18) hx hb hts (by decide +kernel) hown hK hP 0 rfl rfl 1 (by decide) (hts (.fieldLink RX8 13 "SummitTimeModel" "st" "[I") (by decide +kernel)) (fun _ h9 => h9) rfl dX8_stays_33 ?_
      refine lv_bipush (v := nI 60) hx hb dX8_stays_36 rfl ?_
      refine lv_iload_n hx hb dX8_stays_38 rfl (lv_at hl 2 rfl) ?_
      refine mv_iadd hx hb dX8_stays_39 ?_
      refine lv_iconst (v := (-1)) hx hb dX8_stays_40 rfl ?_
      refine mv_iast (f := st) hx hb hK hP hD hS 2 0 rfl rfl (by omega) (by decide) dX8_stays_41 (fun H locs hP hD hS => ?_)
      have hP : va_P D vwCl (mW cI cL cZ ad to (upd st (60 + pe.toNatClampNeg) (-1 : Int32)) mt rd (f_X8_note st un) kp rw se) H := hP
      have hD : va_D A (mW cI cL cZ ad to (upd st (60 + pe.toNatClampNeg) (-1 : Int32)) mt rd (f_X8_note st un) kp rw se) := hD
      refine lv_iload_n hx hb dX8_stays_42 rfl (lv_at hl 0 rfl) ?_
      have hf : (f_X8_stays to st un pe) = ((st (60 + pe.toNatClampNeg)), (upd st (60 + pe.toNatClampNeg) (-1 : Int32)), (f_X8_note st un)) := by rw [f_X8_stays, if_neg c_1, if_pos c_2]
      exact W.iret (v := (st (60 + pe.toNatClampNeg))) hx hb hr (fun t ht hW => ⟨⟨(st (60 + pe.toNatClampNeg)), ((upd st (60 + pe.toNatClampNeg) (-1 : Int32)), (f_X8_note st un)), rfl, ⟨(congrArg Prod.fst hf).symm, (congrArg Prod.snd hf).symm⟩, va_Pt ht hP⟩, hS.F ht⟩) hS.2.2 dX8_stays_43
    · refine lv_bipush (v := (-4)) hx hb dX8_stays_25 rfl ?_
      have hf : (f_X8_stays to st un pe) = ((-4 : Int32), st, un) := by rw [f_X8_stays, if_neg c_1, if_neg c_2]
      exact W.iret (v := (-4 : Int32)) hx hb hr (fun t ht hW => ⟨⟨(-4 : Int32), (st, un), rfl, ⟨(congrArg Prod.fst hf).symm, (congrArg Prod.snd hf).symm⟩, va_Pt ht hP⟩, hS.F ht⟩) hS.2.2 dX8_stays_27
  · refine lv_bipush (v := (-2)) hx hb dX8_stays_8 rfl ?_
    have hf : (f_X8_stays to st un pe) = ((-2 : Int32), st, un) := by rw [f_X8_stays, if_pos c_1]
    exact W.iret (v := (-2 : Int32)) hx hb hr (fun t ht hW => ⟨⟨(-2 : Int32), (st, un), rfl, ⟨(congrArg Prod.fst hf).symm, (congrArg Prod.snd hf).symm⟩, va_Pt ht hP⟩, hS.F ht⟩) hS.2.2 dX8_stays_10
def f_X8_rope (to : (Nat → Int32)) (st : (Nat → Int32)) (un : MUn) (pe : Int32) (on : Int32) : Int32 × (Nat → Int32) × MUn := (if (f_X8_isPerson to pe) = 0 then ((-2 : Int32), st, un) else (if (f_X8_in on.toInt64 (0 : Int64) (1 : Int64)) = 0 then ((-3 : Int32), st, un) else ((st (66 + pe.toNatClampNeg)), (upd st (66 + pe.toNatClampNeg) on), (f_X8_note st un))))
abbrev rm_X8_rope : Room := { frames := 2, cells := 0, slots := 0, locals := 46 }
set_option maxHeartbeats 4000000 in
set_option maxRecDepth 100000 in
theorem c_X8_rope (l : Launch) (D : va_G) (cI cL cZ : ClassId) (ad : Nat → Nat) (A : Nat → Prop) (to : (Nat → Int32)) (st : (Nat → Int32)) (mt : MTx) (rd : (Nat → Int32)) (un : MUn) (kp : MKp) (rw : MKp) (se : MUn) (pe : Int32) (on : Int32) (hm : to 0 = nI (mN to)) (hm6 : mN to ≤ 6) (hun : un.2 ≤ 8) : Met l yX8_rope wsX8_rope rm_X8_rope (va_Pc [.ref (ad 0), .int pe, .int on] (sR D cI cL cZ A (mW cI cL cZ ad to st mt rd un kp rw se))) (va_Qi (fun (r : Int32) (u : (Nat → Int32) × MUn) => r = (f_X8_rope to st un pe on).1 ∧ u = (f_X8_rope to st un pe on).2) (fun (u : (Nat → Int32) × MUn) t => va_P D vwCl (mW cI cL cZ ad to u.1 mt rd u.2 kp rw se) t.heap) A) 0 0 A := by
  refine Met.ofW (cc := cX8_rope) (maxL := 4) (ret := (some .int)) (by decide) rfl ?_
  intro p e s m args below meth c s₁ B hml hv
  obtain ⟨rfl, hP, hK, hD, hE⟩ := hv
  have hx := B.exec
  have hb := B.bytes
  have hr := B.returns
  have hts := atoms_spec (ws := wsX8_rope) B.pre
  have hown : s.vm.findClass RX8 = some m.cls := findClass_of_methodNamed B.named
  have hlocks := B.notSynchronized
  have hS : va_S A s.heap s.heap [] := va_S.rf
  have hl := lv_entry ([.ref (ad 0), .int pe, .int on]) (n := 4) (Nat.le_of_ble_eq_true rfl)
  rw [lg_entry_eq]
  generalize (lg_sl ([.ref (ad 0), .int pe, .int on]) ++ List.replicate (4 - (lg_sl ([.ref (ad 0), .int pe, .int on])).length) Slot.unset).toArray = ls at hl ⊢
  have hl : lv_has ls 4 [(0, .ref (ad 0)), (1, .int pe), (2, .int on)] := hl
  refine lv_aload_n hx hb dX8_rope_0 rfl (lv_at hl 0 rfl) ?_
  refine lv_iload_n hx hb dX8_rope_1 rfl (lv_at hl 1 rfl) ?_
  refine vp_callSi (va_Run.run (va_runV (As := [.int pe]) (rest := []) ⟨hx, hb, hml, hown, hts⟩ (c_X8_isPerson l D cI cL cZ ad A to st mt rd un kp rw se pe (by first | assumption | omega) (by first | assumption | omega)) (cwV 1 hts gX8_rope_X8_isPerson rfl rfl rfl (by decide +kernel) ⟨Nat.le_of_ble_eq_true rfl, Nat.le_of_ble_eq_true rfl⟩) ⟨sR_fb, va_recv hK hP (ci := 8) (q0 := 0) rfl rfl, sR_at hP hK hD hE⟩ rfl rfl hl.1 rfl (lv_room (Nat.le_of_ble_eq_true rfl)) dX8_rope_2 ⟨Nat.zero_le _, Nat.zero_le _⟩)) (fun r hr => ?_)
  subst hr
  refine lv_if_ne (tgt := 11) hx hb dX8_rope_5 (by decide) (fun c_1 => ?_) (fun c_1 => ?_)
  · have hpl : pe.toNatClampNeg < mN to := isP_lt hm6 c_1
    have hl : lv_has ls 4 [(0, .ref (ad 0)), (1, .int (nI pe.toNatClampNeg)), (2, .int on)] := by have h9 := hl; rw [isP_nat c_1] at h9; exact h9
    refine lv_iload_n hx hb dX8_rope_11 rfl (lv_at hl 2 rfl) ?_
    refine lv_i2l hx hb dX8_rope_12 rfl ?_
    refine lv_lconst (v := 0) hx hb dX8_rope_13 rfl ?_
    refine lv_lconst (v := 1) hx hb dX8_rope_14 rfl ?_
    refine vp_callSi (va_Run.run (va_runS (As := [.long on.toInt64, .long (0 : Int64), .long (1 : Int64)]) (rest := []) ⟨hx, hb, hml, hown, hts⟩ (c_X8_in l on.toInt64 (0 : Int64) (1 : Int64) ) (va_cwS 3 hts gX8_rope_X8_in rfl rfl rfl (by decide +kernel) ⟨Nat.le_of_ble_eq_true rfl, Nat.le_of_ble_eq_true rfl⟩) ⟨pR_fb, pR_at⟩ rfl rfl hl.1 rfl (lv_room (Nat.le_of_ble_eq_true rfl)) dX8_rope_15 ⟨Nat.zero_le _, Nat.zero_le _⟩)) (fun r hr => ?_)
    subst hr
    refine lv_if_ne (tgt := 24) hx hb dX8_rope_18 (by decide) (fun c_2 => ?_) (fun c_2 => ?_)
    · refine lv_aload_n hx hb dX8_rope_24 rfl (lv_at hl 0 rfl) ?_
      refine va_callv (va_runV (As := []) (rest := []) ⟨hx, hb, hml, hown, hts⟩ (c_X8_note l D cI cL cZ ad A to st mt rd un kp rw se  (by first | assumption | omega)) (cwV 0 hts gX8_rope_X8_note rfl rfl rfl (by decide +kernel) ⟨Nat.le_of_ble_eq_true rfl, Nat.le_of_ble_eq_true rfl⟩) ⟨sR_fb, va_recv hK hP (ci := 8) (q0 := 0) rfl rfl, sR_at hP hK hD hE⟩ rfl rfl hl.1 rfl (lv_room (Nat.le_of_ble_eq_true rfl)) dX8_rope_25 ⟨Nat.zero_le _, Nat.zero_le _⟩) hS (fun q _ h => h) (fun q h => h) (fun u t H locs ht hvm hw hB hz1 hk1 hS => ?_)
      subst hw
      rw [ht] at hB
      have hP : va_P D vwCl (mW cI cL cZ ad to st mt rd (f_X8_note st un) kp rw se) H := hB
      have hD : va_D A (mW cI cL cZ ad to st mt rd (f_X8_note st un) kp rw se) := mW_D hD
      refine lv_aload_n hx hb dX8_rope_28 rfl (lv_at hl 0 rfl) ?_
      refine va_get (D := D) (ci := 8) (v := .ref (ad 2)) (C := RX8) (T := TX8) (N := 18) hx hb hts (by decide +kernel) hown hK hP 0 rfl rfl 1 (by decide) (hts (.fieldLink RX8 13 "SummitTimeModel" "st" "[I") (by decide +kernel)) (fun _ h9 => h9) rfl dX8_rope_29 ?_
      refine lv_bipush (v := nI 66) hx hb dX8_rope_32 rfl ?_
      refine lv_iload_n hx hb dX8_rope_34 rfl (lv_at hl 1 rfl) ?_
      refine mv_iadd hx hb dX8_rope_35 ?_
      refine mv_iald (f := st) hx hb hK hP 2 0 rfl rfl (by omega) (by decide) dX8_rope_36 ?_
      refine lv_istore_n (lv' := [(3, .int (st (66 + pe.toNatClampNeg))), (0, .ref (ad 0)), (1, .int (nI pe.toNatClampNeg)), (2, .int on)]) hx hb dX8_rope_37 rfl hl (by decide) rfl (fun ls hl => ?_)
      refine lv_aload_n hx hb dX8_rope_38 rfl (lv_at hl 1 rfl) ?_
      refine va_get (D := D) (ci := 8) (v := .ref (ad 2)) (C := RX8) (T := TX8) (N := 18) hx hb hts (by decide +kernel) hown hK hP 0 rfl rfl 1 (by decide) (hts (.fieldLink RX8 13 "SummitTimeModel" "st" "[I") (by decide +kernel)) (fun _ h9 => h9) rfl dX8_rope_39 ?_
      refine lv_bipush (v := nI 66) hx hb dX8_rope_42 rfl ?_
      refine lv_iload_n hx hb dX8_rope_44 rfl (lv_at hl 2 rfl) ?_
      refine mv_iadd hx hb dX8_rope_45 ?_
      refine lv_iload_n hx hb dX8_rope_46 rfl (lv_at hl 3 rfl) ?_
      refine mv_iast (f := st) hx hb hK hP hD hS 2 0 rfl rfl (by omega) (by decide) dX8_rope_47 (fun H locs hP hD hS => ?_)
      have hP : va_P D vwCl (mW cI cL cZ ad to (upd st (66 + pe.toNatClampNeg) on) mt rd (f_X8_note st un) kp rw se) H := hP
      have hD : va_D A (mW cI cL cZ ad to (upd st (66 + pe.toNatClampNeg) on) mt rd (f_X8_note st un) kp rw se) := hD
      refine lv_iload_n hx hb dX8_rope_48 rfl (lv_at hl 0 rfl) ?_
      have hf : (f_X8_rope to st un pe on) = ((st (66 + pe.toNatClampNeg)), (upd st (66 + pe.toNatClampNeg) on), (f_X8_note st un)) := by rw [f_X8_rope, if_neg c_1, if_neg c_2]
      exact W.iret (v := (st (66 + pe.toNatClampNeg))) hx hb hr (fun t ht hW => ⟨⟨(st (66 + pe.toNatClampNeg)), ((upd st (66 + pe.toNatClampNeg) on), (f_X8_note st un)), rfl, ⟨(congrArg Prod.fst hf).symm, (congrArg Prod.snd hf).symm⟩, va_Pt ht hP⟩, hS.F ht⟩) hS.2.2 dX8_rope_49
    · refine lv_bipush (v := (-3)) hx hb dX8_rope_21 rfl ?_
      have hf : (f_X8_rope to st un pe on) = ((-3 : Int32), st, un) := by rw [f_X8_rope, if_neg c_1, if_pos c_2]
      exact W.iret (v := (-3 : Int32)) hx hb hr (fun t ht hW => ⟨⟨(-3 : Int32), (st, un), rfl, ⟨(congrArg Prod.fst hf).symm, (congrArg Prod.snd hf).symm⟩, va_Pt ht hP⟩, hS.F ht⟩) hS.2.2 dX8_rope_23
  · refine lv_bipush (v := (-2)) hx hb dX8_rope_8 rfl ?_
    have hf : (f_X8_rope to st un pe on) = ((-2 : Int32), st, un) := by rw [f_X8_rope, if_pos c_1]
    exact W.iret (v := (-2 : Int32)) hx hb hr (fun t ht hW => ⟨⟨(-2 : Int32), (st, un), rfl, ⟨(congrArg Prod.fst hf).symm, (congrArg Prod.snd hf).symm⟩, va_Pt ht hP⟩, hS.F ht⟩) hS.2.2 dX8_rope_10
def f_X8_clock (st : (Nat → Int32)) (un : MUn) (kk : Int32) : Int32 × (Nat → Int32) × MUn := (if (f_X8_in kk.toInt64 (0 : Int64) (9 : Int64)) = 0 then ((-3 : Int32), st, un) else ((st 72), (upd st 72 kk), (f_X8_note st un)))
abbrev rm_X8_clock : Room := { frames := 1, cells := 0, slots := 0, locals := 25 }
set_option maxHeartbeats 4000000 in
set_option maxRecDepth 100000 in
theorem c_X8_clock (l : Launch) (D : va_G) (cI cL cZ : ClassId) (ad : Nat → Nat) (A : Nat → Prop) (to : (Nat → Int32)) (st : (Nat → Int32)) (mt : MTx) (rd : (Nat → Int32)) (un : MUn) (kp : MKp) (rw : MKp) (se : MUn) (kk : Int32) (hun : un.2 ≤ 8) : Met l yX8_clock wsX8_clock rm_X8_clock (va_Pc [.ref (ad 0), .int kk] (sR D cI cL cZ A (mW cI cL cZ ad to st mt rd un kp rw se))) (va_Qi (fun (r : Int32) (u : (Nat → Int32) × MUn) => r = (f_X8_clock st un kk).1 ∧ u = (f_X8_clock st un kk).2) (fun (u : (Nat → Int32) × MUn) t => va_P D vwCl (mW cI cL cZ ad to u.1 mt rd u.2 kp rw se) t.heap) A) 0 0 A := by
  refine Met.ofW (cc := cX8_clock) (maxL := 3) (ret := (some .int)) (by decide) rfl ?_
  intro p e s m args below meth c s₁ B hml hv
  obtain ⟨rfl, hP, hK, hD, hE⟩ := hv
  have hx := B.exec
  have hb := B.bytes
  have hr := B.returns
  have hts := atoms_spec (ws := wsX8_clock) B.pre
  have hown : s.vm.findClass RX8 = some m.cls := findClass_of_methodNamed B.named
  have hlocks := B.notSynchronized
  have hS : va_S A s.heap s.heap [] := va_S.rf
  have hl := lv_entry ([.ref (ad 0), .int kk]) (n := 3) (Nat.le_of_ble_eq_true rfl)
  rw [lg_entry_eq]
  generalize (lg_sl ([.ref (ad 0), .int kk]) ++ List.replicate (3 - (lg_sl ([.ref (ad 0), .int kk])).length) Slot.unset).toArray = ls at hl ⊢
  have hl : lv_has ls 3 [(0, .ref (ad 0)), (1, .int kk)] := hl
  refine lv_iload_n hx hb dX8_clock_0 rfl (lv_at hl 1 rfl) ?_
  refine lv_i2l hx hb dX8_clock_1 rfl ?_
  refine lv_lconst (v := 0) hx hb dX8_clock_2 rfl ?_
  refine lv_ldc2 (v := (9)) hx hb hown (hts (.constantLong RX8 166 (9)) (by decide +kernel)) dX8_clock_3 ?_
  refine vp_callSi (va_Run.run (va_runS (As := [.long kk.toInt64, .long (0 : Int64), .long (9 : Int64)]) (rest := []) ⟨hx, hb, hml, hown, hts⟩ (c_X8_in l kk.toInt64 (0 : Int64) (9 : Int64) ) (va_cwS 3 hts gX8_clock_X8_in rfl rfl rfl (by decide +kernel) ⟨Nat.le_of_ble_eq_true rfl, Nat.le_of_ble_eq_true rfl⟩) ⟨pR_fb, pR_at⟩ rfl rfl hl.1 rfl (lv_room (Nat.le_of_ble_eq_true rfl)) dX8_clock_6 ⟨Nat.zero_le _, Nat.zero_le _⟩)) (fun r hr => ?_)
  subst hr
  refine lv_if_ne (tgt := 15) hx hb dX8_clock_9 (by decide) (fun c_1 => ?_) (fun c_1 => ?_)
  · refine lv_aload_n hx hb dX8_clock_15 rfl (lv_at hl 0 rfl) ?_
    refine va_callv (va_runV (As := []) (rest := []) ⟨hx, hb, hml, hown, hts⟩ (c_X8_note l D cI cL cZ ad A to st mt rd un kp rw se  (by first | assumption | omega)) (cwV 0 hts gX8_clock_X8_note rfl rfl rfl (by decide +kernel) ⟨Nat.le_of_ble_eq_true rfl, Nat.le_of_ble_eq_true rfl⟩) ⟨sR_fb, va_recv hK hP (ci := 8) (q0 := 0) rfl rfl, sR_at hP hK hD hE⟩ rfl rfl hl.1 rfl (lv_room (Nat.le_of_ble_eq_true rfl)) dX8_clock_16 ⟨Nat.zero_le _, Nat.zero_le _⟩) hS (fun q _ h => h) (fun q h => h) (fun u t H locs ht hvm hw hB hz1 hk1 hS => ?_)
    subst hw
    rw [ht] at hB
    have hP : va_P D vwCl (mW cI cL cZ ad to st mt rd (f_X8_note st un) kp rw se) H := hB
    have hD : va_D A (mW cI cL cZ ad to st mt rd (f_X8_note st un) kp rw se) := mW_D hD
    refine lv_aload_n hx hb dX8_clock_19 rfl (lv_at hl 0 rfl) ?_
    refine va_get (D := D) (ci := 8) (v := .ref (ad 2)) (C := RX8) (T := TX8) (N := 18) hx hb hts (by decide +kernel) hown hK hP 0 rfl rfl 1 (by decide) (hts (.fieldLink RX8 13 "SummitTimeModel" "st" "[I") (by decide +kernel)) (fun _ h9 => h9) rfl dX8_clock_20 ?_
    refine lv_bipush (v := nI 72) hx hb dX8_clock_23 rfl ?_
    refine mv_iald (f := st) hx hb hK hP 2 0 rfl rfl (by decide) (by decide) dX8_clock_25 ?_
    refine lv_istore_n (lv' := [(2, .int (st 72)), (0, .ref (ad 0)), (1, .int kk)]) hx hb dX8_clock_26 rfl hl (by decide) rfl (fun ls hl => ?_)
    refine lv_aload_n hx hb dX8_clock_27 rfl (lv_at hl 1 rfl) ?_
    refine va_get (D := D) (ci := 8) (v := .ref (ad 2)) (C := RX8) (T := TX8) (N := 18) hx hb hts (by decide +kernel) hown hK hP 0 rfl rfl 1 (by decide) (hts (.fieldLink RX8 13 "SummitTimeModel" "st" "[I") (by decide +kernel)) (fun _ h9 => h9) rfl dX8_clock_28 ?_
    refine lv_bipush (v := nI 72) hx hb dX8_clock_31 rfl ?_
    refine lv_iload_n hx hb dX8_clock_33 rfl (lv_at hl 2 rfl) ?_
    refine mv_iast (f := st) hx hb hK hP hD hS 2 0 rfl rfl (by decide) (by decide) dX8_clock_34 (fun H locs hP hD hS => ?_)
    have hP : va_P D vwCl (mW cI cL cZ ad to (upd st 72 kk) mt rd (f_X8_note st un) kp rw se) H := hP
    have hD : va_D A (mW cI cL cZ ad to (upd st 72 kk) mt rd (f_X8_note st un) kp rw se) := hD
    refine lv_iload_n hx hb dX8_clock_35 rfl (lv_at hl 0 rfl) ?_
    have hf : (f_X8_clock st un kk) = ((st 72), (upd st 72 kk), (f_X8_note st un)) := by rw [f_X8_clock, if_neg c_1]
    exact W.iret (v := (st 72)) hx hb hr (fun t ht hW => ⟨⟨(st 72), ((upd st 72 kk), (f_X8_note st un)), rfl, ⟨(congrArg Prod.fst hf).symm, (congrArg Prod.snd hf).symm⟩, va_Pt ht hP⟩, hS.F ht⟩) hS.2.2 dX8_clock_36
  · refine lv_bipush (v := (-3)) hx hb dX8_clock_12 rfl ?_
    have hf : (f_X8_clock st un kk) = ((-3 : Int32), st, un) := by rw [f_X8_clock, if_pos c_1]
    exact W.iret (v := (-3 : Int32)) hx hb hr (fun t ht hW => ⟨⟨(-3 : Int32), (st, un), rfl, ⟨(congrArg Prod.fst hf).symm, (congrArg Prod.snd hf).symm⟩, va_Pt ht hP⟩, hS.F ht⟩) hS.2.2 dX8_clock_14
def L_X8_halve_48 (pe : Int32) (ot : Int32) : Nat → Nat → Int32 → Int32 → (Nat → Int32) → Int32 × Int32 × (Nat → Int32)
  | 0, _, x4_48, x3_48, wst0_48 => (x4_48, x3_48, wst0_48)
  | n_48 + 1, k_48, x4_48, x3_48, wst0_48 => (if (wst0_48 k_48) = pe then (if ((x3_48 + 1) - (x3_48 + 1) / (nI 2) * (nI 2)) = 0 then (L_X8_halve_48 pe ot n_48 (k_48 + 1) (x4_48 + 1) (x3_48 + 1) (upd wst0_48 k_48 ot)) else (L_X8_halve_48 pe ot n_48 (k_48 + 1) x4_48 (x3_48 + 1) wst0_48)) else (L_X8_halve_48 pe ot n_48 (k_48 + 1) x4_48 x3_48 wst0_48))
def f_X8_halve (to : (Nat → Int32)) (st : (Nat → Int32)) (un : MUn) (pe : Int32) (ot : Int32) : Int32 × (Nat → Int32) × MUn := (if (f_X8_isPerson to pe) = 0 then ((-2 : Int32), st, un) else (if (f_X8_isPerson to ot) = 0 then ((-2 : Int32), st, un) else (if pe = ot then ((-2 : Int32), st, un) else (if nI 2 ≤ (f_X8_ownMany st pe) then ((L_X8_halve_48 pe ot 60 0 (nI 0) (nI 0) st).1, (L_X8_halve_48 pe ot 60 0 (nI 0) (nI 0) st).2.2, (f_X8_note st un)) else ((-4 : Int32), st, un)))))
abbrev rm_X8_halve : Room := { frames := 2, cells := 0, slots := 0, locals := 46 }
set_option maxHeartbeats 4000000 in
set_option maxRecDepth 100000 in
theorem c_X8_halve (l : Launch) (D : va_G) (cI cL cZ : ClassId) (ad : Nat → Nat) (A : Nat → Prop) (to : (Nat → Int32)) (st : (Nat → Int32)) (mt : MTx) (rd : (Nat → Int32)) (un : MUn) (kp : MKp) (rw : MKp) (se : MUn) (pe : Int32) (ot : Int32) (hm : to 0 = nI (mN to)) (hm6 : mN to ≤ 6) (hun : un.2 ≤ 8) : Met l yX8_halve wsX8_halve rm_X8_halve (va_Pc [.ref (ad 0), .int pe, .int ot] (sR D cI cL cZ A (mW cI cL cZ ad to st mt rd un kp rw se))) (va_Qi (fun (r : Int32) (u : (Nat → Int32) × MUn) => r = (f_X8_halve to st un pe ot).1 ∧ u = (f_X8_halve to st un pe ot).2) (fun (u : (Nat → Int32) × MUn) t => va_P D vwCl (mW cI cL cZ ad to u.1 mt rd u.2 kp rw se) t.heap) A) 0 0 A := by
  refine Met.ofW (cc := cX8_halve) (maxL := 6) (ret := (some .int)) (by decide) rfl ?_
  intro p e s m args below meth c s₁ B hml hv
  obtain ⟨rfl, hP, hK, hD, hE⟩ := hv
  have hx := B.exec
  have hb := B.bytes
  have hr := B.returns
  have hts := atoms_spec (ws := wsX8_halve) B.pre
  have hown : s.vm.findClass RX8 = some m.cls := findClass_of_methodNamed B.named
  have hlocks := B.notSynchronized
  have hS : va_S A s.heap s.heap [] := va_S.rf
  have hl := lv_entry ([.ref (ad 0), .int pe, .int ot]) (n := 6) (Nat.le_of_ble_eq_true rfl)
  rw [lg_entry_eq]
  generalize (lg_sl ([.ref (ad 0), .int pe, .int ot]) ++ List.replicate (6 - (lg_sl ([.ref (ad 0), .int pe, .int ot])).length) Slot.unset).toArray = ls at hl ⊢
  have hl : lv_has ls 6 [(0, .ref (ad 0)), (1, .int pe), (2, .int ot)] := hl
  obtain ⟨Q, hQe⟩ : ∃ Q, Q = MQ below (va_Qi (fun (r : Int32) (u : (Nat → Int32) × MUn) => r = (f_X8_halve to st un pe ot).1 ∧ u = (f_X8_halve to st un pe ot).2) (fun (u : (Nat → Int32) × MUn) t => va_P D vwCl (mW cI cL cZ ad to u.1 mt rd u.2 kp rw se) t.heap) A) ([.ref (ad 0), .int pe, .int ot] : List Value).toArray s 0 0 A := ⟨_, rfl⟩
  show W p l e (headSpec wsX8_halve rm_X8_halve).room s m ([.ref (ad 0), .int pe, .int ot] : List Value).toArray below meth c s.heap [] 0 0 (MQ below (va_Qi (fun (r : Int32) (u : (Nat → Int32) × MUn) => r = (f_X8_halve to st un pe ot).1 ∧ u = (f_X8_halve to st un pe ot).2) (fun (u : (Nat → Int32) × MUn) t => va_P D vwCl (mW cI cL cZ ad to u.1 mt rd u.2 kp rw se) t.heap) A) ([.ref (ad 0), .int pe, .int ot] : List Value).toArray s 0 0 A) (F0 m 0 ls [])
  rw [← hQe]
  refine lv_aload_n hx hb dX8_halve_0 rfl (lv_at hl 0 rfl) ?_
  refine lv_iload_n hx hb dX8_halve_1 rfl (lv_at hl 1 rfl) ?_
  refine vp_callSi (va_Run.run (va_runV (As := [.int pe]) (rest := []) ⟨hx, hb, hml, hown, hts⟩ (c_X8_isPerson l D cI cL cZ ad A to st mt rd un kp rw se pe (by first | assumption | omega) (by first | assumption | omega)) (cwV 1 hts gX8_halve_X8_isPerson rfl rfl rfl (by decide +kernel) ⟨Nat.le_of_ble_eq_true rfl, Nat.le_of_ble_eq_true rfl⟩) ⟨sR_fb, va_recv hK hP (ci := 8) (q0 := 0) rfl rfl, sR_at hP hK hD hE⟩ rfl rfl hl.1 rfl (lv_room (Nat.le_of_ble_eq_true rfl)) dX8_halve_2 ⟨Nat.zero_le _, Nat.zero_le _⟩)) (fun r hr => ?_)
  subst hr
  refine lv_if_eq (tgt := 21) hx hb dX8_halve_5 (by decide) (fun c_1 => ?_) (fun c_1 => ?_)
  · refine lv_bipush (v := (-2)) hx hb dX8_halve_21 rfl ?_
    subst hQe
    have hf : (f_X8_halve to st un pe ot) = ((-2 : Int32), st, un) := by rw [f_X8_halve, if_pos c_1]
    exact W.iret (v := (-2 : Int32)) hx hb hr (fun t ht hW => ⟨⟨(-2 : Int32), (st, un), rfl, ⟨(congrArg Prod.fst hf).symm, (congrArg Prod.snd hf).symm⟩, va_Pt ht hP⟩, hS.F ht⟩) hS.2.2 dX8_halve_23
  · refine lv_aload_n hx hb dX8_halve_8 rfl (lv_at hl 0 rfl) ?_
    refine lv_iload_n hx hb dX8_halve_9 rfl (lv_at hl 2 rfl) ?_
    refine vp_callSi (va_Run.run (va_runV (As := [.int ot]) (rest := []) ⟨hx, hb, hml, hown, hts⟩ (c_X8_isPerson l D cI cL cZ ad A to st mt rd un kp rw se ot (by first | assumption | omega) (by first | assumption | omega)) (cwV 1 hts gX8_halve_X8_isPerson rfl rfl rfl (by decide +kernel) ⟨Nat.le_of_ble_eq_true rfl, Nat.le_of_ble_eq_true rfl⟩) ⟨sR_fb, va_recv hK hP (ci := 8) (q0 := 0) rfl rfl, sR_at hP hK hD hE⟩ rfl rfl hl.1 rfl (lv_room (Nat.le_of_ble_eq_true rfl)) dX8_halve_10 ⟨Nat.zero_le _, Nat.zero_le _⟩)) (fun r hr => ?_)
    subst hr
    refine lv_if_eq (tgt := 21) hx hb dX8_halve_13 (by decide) (fun c_2 => ?_) (fun c_2 => ?_)
    · refine lv_bipush (v := (-2)) hx hb dX8_halve_21 rfl ?_
      subst hQe
      have hf : (f_X8_halve to st un pe ot) = ((-2 : Int32), st, un) := by rw [f_X8_halve, if_neg c_1, if_pos c_2]
      exact W.iret (v := (-2 : Int32)) hx hb hr (fun t ht hW => ⟨⟨(-2 : Int32), (st, un), rfl, ⟨(congrArg Prod.fst hf).symm, (congrArg Prod.snd hf).symm⟩, va_Pt ht hP⟩, hS.F ht⟩) hS.2.2 dX8_halve_23
    · refine lv_iload_n hx hb dX8_halve_16 rfl (lv_at hl 1 rfl) ?_
      refine lv_iload_n hx hb dX8_halve_17 rfl (lv_at hl 2 rfl) ?_
      refine lv_icmp_ne (tgt := 24) hx hb dX8_halve_18 (by decide) (fun c_3 => ?_) (fun c_3 => ?_)
      · refine lv_aload_n hx hb dX8_halve_24 rfl (lv_at hl 0 rfl) ?_
        refine lv_iload_n hx hb dX8_halve_25 rfl (lv_at hl 1 rfl) ?_
        refine vp_callSi (va_Run.run (va_runV (As := [.int pe]) (rest := []) ⟨hx, hb, hml, hown, hts⟩ (c_X8_ownMany l D cI cL cZ ad A to st mt rd un kp rw se pe ) (cwV 1 hts gX8_halve_X8_ownMany rfl rfl rfl (by decide +kernel) ⟨Nat.le_of_ble_eq_true rfl, Nat.le_of_ble_eq_true rfl⟩) ⟨sR_fb, va_recv hK hP (ci := 8) (q0 := 0) rfl rfl, sR_at hP hK hD hE⟩ rfl rfl hl.1 rfl (lv_room (Nat.le_of_ble_eq_true rfl)) dX8_halve_26 ⟨Nat.zero_le _, Nat.zero_le _⟩)) (fun r hr => ?_)
        subst hr
        refine lv_iconst (v := nI 2) hx hb dX8_halve_29 rfl ?_
        refine lv_icmp_ge (tgt := 36) hx hb dX8_halve_30 (by decide) (fun c_4 => ?_) (fun c_4 => ?_)
        · refine lv_aload_n hx hb dX8_halve_36 rfl (lv_at hl 0 rfl) ?_
          refine va_callv (va_runV (As := []) (rest := []) ⟨hx, hb, hml, hown, hts⟩ (c_X8_note l D cI cL cZ ad A to st mt rd un kp rw se  (by first | assumption | omega)) (cwV 0 hts gX8_halve_X8_note rfl rfl rfl (by decide +kernel) ⟨Nat.le_of_ble_eq_true rfl, Nat.le_of_ble_eq_true rfl⟩) ⟨sR_fb, va_recv hK hP (ci := 8) (q0 := 0) rfl rfl, sR_at hP hK hD hE⟩ rfl rfl hl.1 rfl (lv_room (Nat.le_of_ble_eq_true rfl)) dX8_halve_37 ⟨Nat.zero_le _, Nat.zero_le _⟩) hS (fun q _ h => h) (fun q h => h) (fun u t H locs ht hvm hw hB hz1 hk1 hS => ?_)
          subst hw
          rw [ht] at hB
          have hP : va_P D vwCl (mW cI cL cZ ad to st mt rd (f_X8_note st un) kp rw se) H := hB
          have hD : va_D A (mW cI cL cZ ad to st mt rd (f_X8_note st un) kp rw se) := mW_D hD
          refine lv_iconst (v := nI 0) hx hb dX8_halve_40 rfl ?_
          refine lv_istore_n (lv' := [(3, .int (nI 0)), (0, .ref (ad 0)), (1, .int pe), (2, .int ot)]) hx hb dX8_halve_41 rfl hl (by decide) rfl (fun ls hl => ?_)
          refine lv_iconst (v := nI 0) hx hb dX8_halve_42 rfl ?_
          refine lv_istore (lv' := [(4, .int (nI 0)), (3, .int (nI 0)), (0, .ref (ad 0)), (1, .int pe), (2, .int ot)]) hx hb dX8_halve_43 hl (by decide) rfl (fun ls hl => ?_)
          refine lv_iconst (v := nI 0) hx hb dX8_halve_45 rfl ?_
          refine lv_istore (lv' := [(5, .int (nI 0)), (4, .int (nI 0)), (3, .int (nI 0)), (0, .ref (ad 0)), (1, .int pe), (2, .int ot)]) hx hb dX8_halve_46 hl (by decide) rfl (fun ls hl => ?_)
          obtain ⟨T_48_1, hT_48_1⟩ : ∃ z, z = (L_X8_halve_48 pe ot 60 0 (nI 0) (nI 0) st) := ⟨_, rfl⟩
          have hexit_48 : ∀ (H : Heap) (locs : List Loc) (ls : Array Slot), va_P D vwCl (mW cI cL cZ ad to T_48_1.2.2 mt rd (f_X8_note st un) kp rw se) H → va_S A s.heap H locs → lv_has ls 6 [(4, .int T_48_1.1), (3, .int T_48_1.2.1), (0, .ref (ad 0)), (1, .int pe), (2, .int ot)] → W p l e (headSpec wsX8_halve rm_X8_halve).room s m ([.ref (ad 0), .int pe, .int ot] : List Value).toArray below meth c H locs 0 0 Q (F0 m 92 ls []) := by
            intro H locs ls hP hS hl
            have hD : va_D A (mW cI cL cZ ad to T_48_1.2.2 mt rd (f_X8_note st un) kp rw se) := mW_D hD
            refine lv_iload hx hb dX8_halve_92 (lv_at hl 0 rfl) ?_
            subst hQe
            have hf : (f_X8_halve to st un pe ot) = (T_48_1.1, T_48_1.2.2, (f_X8_note st un)) := by subst hT_48_1; rw [f_X8_halve, if_neg c_1, if_neg c_2, if_neg c_3, if_pos c_4]
            exact W.iret (v := T_48_1.1) hx hb hr (fun t ht hW => ⟨⟨T_48_1.1, (T_48_1.2.2, (f_X8_note st un)), rfl, ⟨(congrArg Prod.fst hf).symm, (congrArg Prod.snd hf).symm⟩, va_Pt ht hP⟩, hS.F ht⟩) hS.2.2 dX8_halve_94
          have loop_48 : ∀ (n_48 : Nat) (k_48 : Nat) (x4_48 : Int32) (x3_48 : Int32) (wst0_48 : Nat → Int32), (k_48 + n_48 = 60) → L_X8_halve_48 pe ot n_48 k_48 x4_48 x3_48 wst0_48 = T_48_1 → ∀ (H : Heap) (locs : List Loc) (ls : Array Slot), va_P D vwCl (mW cI cL cZ ad to wst0_48 mt rd (f_X8_note st un) kp rw se) H → va_S A s.heap H locs → lv_has ls 6 [(5, .int (nI k_48)), (4, .int x4_48), (3, .int x3_48), (0, .ref (ad 0)), (1, .int pe), (2, .int ot)] → W p l e (headSpec wsX8_halve rm_X8_halve).room s m ([.ref (ad 0), .int pe, .int ot] : List Value).toArray below meth c H locs 0 0 Q (F0 m 48 ls []) := by
            intro n_48
            induction n_48 with
            | zero =>
              intro k_48 x4_48 x3_48 wst0_48 hk_48 hL_48 H locs ls hP hS hl
              have hD : va_D A (mW cI cL cZ ad to wst0_48 mt rd (f_X8_note st un) kp rw se) := mW_D hD
              refine lv_iload hx hb dX8_halve_48 (lv_at hl 0 rfl) ?_
              refine lv_bipush (v := nI 60) hx hb dX8_halve_50 rfl ?_
              refine mv_icmp_ge (tgt := 92) hx hb dX8_halve_52 (by decide) (by omega) (by decide) (fun c_8 => ?_) (fun c_8 => (by omega : False).elim)
              have e9 : T_48_1 = (x4_48, x3_48, wst0_48) := by rw [← hL_48, L_X8_halve_48]
              have hq := hexit_48
              rw [e9] at hq
              exact hq _ _ ls  hP hS (lv_sub hl [1, 2, 3, 4, 5] rfl)
            | succ n_48 ih_48 =>
              intro k_48 x4_48 x3_48 wst0_48 hk_48 hL_48 H locs ls hP hS hl
              have hD : va_D A (mW cI cL cZ ad to wst0_48 mt rd (f_X8_note st un) kp rw se) := mW_D hD
              refine lv_iload hx hb dX8_halve_48 (lv_at hl 0 rfl) ?_
              refine lv_bipush (v := nI 60) hx hb dX8_halve_50 rfl ?_
              refine mv_icmp_ge (tgt := 92) hx hb dX8_halve_52 (by decide) (by omega) (by decide) (fun c_5 => (by omega : False).elim) (fun c_5 => ?_)
              refine lv_aload_n hx hb dX8_halve_55 rfl (lv_at hl 3 rfl) ?_
              refine va_get (D := D) (ci := 8) (v := .ref (ad 2)) (C := RX8) (T := TX8) (N := 18) hx hb hts (by decide +kernel) hown hK hP 0 rfl rfl 1 (by decide) (hts (.fieldLink RX8 13 "SummitTimeModel" "st" "[I") (by decide +kernel)) (fun _ h9 => h9) rfl dX8_halve_56 ?_
              refine lv_iload hx hb dX8_halve_59 (lv_at hl 0 rfl) ?_
              refine mv_iald (f := wst0_48) hx hb hK hP 2 0 rfl rfl (by omega) (by decide) dX8_halve_61 ?_
              refine lv_iload_n hx hb dX8_halve_62 rfl (lv_at hl 4 rfl) ?_
              refine lv_icmp_ne (tgt := 86) hx hb dX8_halve_63 (by decide) (fun c_6 => ?_) (fun c_6 => ?_)
              · refine mv_iinc (y := k_48 + 1) (lv' := [(5, .int (nI (k_48 + 1))), (4, .int x4_48), (3, .int x3_48), (0, .ref (ad 0)), (1, .int pe), (2, .int ot)]) hx hb dX8_halve_86 hl (k := 0) rfl (nI_p1 _) (by decide) rfl (fun ls hl => ?_)
                refine lv_goto (tgt := 48) hx hb dX8_halve_89 (by decide) ?_
                exact ih_48 (k_48 + 1) x4_48 x3_48 wst0_48 (by omega) (by have e9 := hL_48; rw [L_X8_halve_48, if_neg c_6] at e9; exact e9) _ _ ls hP hS (lv_sub hl [0, 1, 2, 3, 4, 5] rfl)
              · refine lv_iinc (v := x3_48 + 1) (lv' := [(3, .int (x3_48 + 1)), (5, .int (nI k_48)), (4, .int x4_48), (0, .ref (ad 0)), (1, .int pe), (2, .int ot)]) hx hb dX8_halve_66 hl (k := 2) rfl rfl (by decide) rfl (fun ls hl => ?_)
                refine lv_iload_n hx hb dX8_halve_69 rfl (lv_at hl 0 rfl) ?_
                refine lv_iconst (v := nI 2) hx hb dX8_halve_70 rfl ?_
                refine lv_irem hx hb dX8_halve_71 (by decide) ?_
                refine lv_if_ne (tgt := 86) hx hb dX8_halve_72 (by decide) (fun c_7 => ?_) (fun c_7 => ?_)
                · refine mv_iinc (y := k_48 + 1) (lv' := [(5, .int (nI (k_48 + 1))), (3, .int (x3_48 + 1)), (4, .int x4_48), (0, .ref (ad 0)), (1, .int pe), (2, .int ot)]) hx hb dX8_halve_86 hl (k := 1) rfl (nI_p1 _) (by decide) rfl (fun ls hl => ?_)
                  refine lv_goto (tgt := 48) hx hb dX8_halve_89 (by decide) ?_
                  exact ih_48 (k_48 + 1) x4_48 (x3_48 + 1) wst0_48 (by omega) (by have e9 := hL_48; rw [L_X8_halve_48, if_pos c_6, if_neg c_7] at e9; exact e9) _ _ ls hP hS (lv_sub hl [0, 2, 1, 3, 4, 5] rfl)
                · refine lv_aload_n hx hb dX8_halve_75 rfl (lv_at hl 3 rfl) ?_
                  refine va_get (D := D) (ci := 8) (v := .ref (ad 2)) (C := RX8) (T := TX8) (N := 18) hx hb hts (by decide +kernel) hown hK hP 0 rfl rfl 1 (by decide) (hts (.fieldLink RX8 13 "SummitTimeModel" "st" "[I") (by decide +kernel)) (fun _ h9 => h9) rfl dX8_halve_76 ?_
                  refine lv_iload hx hb dX8_halve_79 (lv_at hl 1 rfl) ?_
                  refine lv_iload_n hx hb dX8_halve_81 rfl (lv_at hl 5 rfl) ?_
                  refine mv_iast (f := wst0_48) hx hb hK hP hD hS 2 0 rfl rfl (by omega) (by decide) dX8_halve_82 (fun H locs hP hD hS => ?_)
                  have hP : va_P D vwCl (mW cI cL cZ ad to (upd wst0_48 k_48 ot) mt rd (f_X8_note st un) kp rw se) H := hP
                  have hD : va_D A (mW cI cL cZ ad to (upd wst0_48 k_48 ot) mt rd (f_X8_note st un) kp rw se) := hD
                  refine lv_iinc (v := x4_48 + 1) (lv' := [(4, .int (x4_48 + 1)), (3, .int (x3_48 + 1)), (5, .int (nI k_48)), (0, .ref (ad 0)), (1, .int pe), (2, .int ot)]) hx hb dX8_halve_83 hl (k := 2) rfl rfl (by decide) rfl (fun ls hl => ?_)
                  refine mv_iinc (y := k_48 + 1) (lv' := [(5, .int (nI (k_48 + 1))), (4, .int (x4_48 + 1)), (3, .int (x3_48 + 1)), (0, .ref (ad 0)), (1, .int pe), (2, .int ot)]) hx hb dX8_halve_86 hl (k := 2) rfl (nI_p1 _) (by decide) rfl (fun ls hl => ?_)
                  refine lv_goto (tgt := 48) hx hb dX8_halve_89 (by decide) ?_
                  exact ih_48 (k_48 + 1) (x4_48 + 1) (x3_48 + 1) (upd wst0_48 k_48 ot) (by omega) (by have e9 := hL_48; rw [L_X8_halve_48, if_pos c_6, if_pos c_7] at e9; exact e9) _ _ ls hP hS (lv_sub hl [0, 1, 2, 3, 4, 5] rfl)
          exact loop_48 60 0 (nI 0) (nI 0) st (by omega) hT_48_1.symm _ _ ls hP hS (lv_sub hl [0, 1, 2, 3, 4, 5] rfl)
        · refine lv_bipush (v := (-4)) hx hb dX8_halve_33 rfl ?_
          subst hQe
          have hf : (f_X8_halve to st un pe ot) = ((-4 : Int32), st, un) := by rw [f_X8_halve, if_neg c_1, if_neg c_2, if_neg c_3, if_neg c_4]
          exact W.iret (v := (-4 : Int32)) hx hb hr (fun t ht hW => ⟨⟨(-4 : Int32), (st, un), rfl, ⟨(congrArg Prod.fst hf).symm, (congrArg Prod.snd hf).symm⟩, va_Pt ht hP⟩, hS.F ht⟩) hS.2.2 dX8_halve_35
      · refine lv_bipush (v := (-2)) hx hb dX8_halve_21 rfl ?_
        subst hQe
        have hf : (f_X8_halve to st un pe ot) = ((-2 : Int32), st, un) := by rw [f_X8_halve, if_neg c_1, if_neg c_2, if_pos c_3]
        exact W.iret (v := (-2 : Int32)) hx hb hr (fun t ht hW => ⟨⟨(-2 : Int32), (st, un), rfl, ⟨(congrArg Prod.fst hf).symm, (congrArg Prod.snd hf).symm⟩, va_Pt ht hP⟩, hS.F ht⟩) hS.2.2 dX8_halve_23
def f_X8_sell (to : (Nat → Int32)) (st : (Nat → Int32)) (un : MUn) (sec : Int32) (pe : Int32) : Int32 × (Nat → Int32) × MUn := (if pe = (-1 : Int32) then (if (f_X8_in sec.toInt64 (0 : Int64) (59 : Int64)) = 0 then ((-3 : Int32), st, un) else (if (st sec.toNatClampNeg) = pe then ((-4 : Int32), st, un) else ((st sec.toNatClampNeg), (upd st sec.toNatClampNeg pe), (f_X8_note st un)))) else (if (f_X8_isPerson to pe) = 0 then ((-2 : Int32), st, un) else (if (f_X8_in sec.toInt64 (0 : Int64) (59 : Int64)) = 0 then ((-3 : Int32), st, un) else (if (st sec.toNatClampNeg) = pe then ((-4 : Int32), st, un) else ((st sec.toNatClampNeg), (upd st sec.toNatClampNeg pe), (f_X8_note st un))))))
abbrev rm_X8_sell : Room := { frames := 2, cells := 0, slots := 0, locals := 46 }
set_option maxHeartbeats 4000000 in
set_option maxRecDepth 100000 in
theorem c_X8_sell (l : Launch) (D : va_G) (cI cL cZ : ClassId) (ad : Nat → Nat) (A : Nat → Prop) (to : (Nat → Int32)) (st : (Nat → Int32)) (mt : MTx) (rd : (Nat → Int32)) (un : MUn) (kp : MKp) (rw : MKp) (se : MUn) (sec : Int32) (pe : Int32) (hm : to 0 = nI (mN to)) (hm6 : mN to ≤ 6) (hun : un.2 ≤ 8) : Met l yX8_sell wsX8_sell rm_X8_sell (va_Pc [.ref (ad 0), .int sec, .int pe] (sR D cI cL cZ A (mW cI cL cZ ad to st mt rd un kp rw se))) (va_Qi (fun (r : Int32) (u : (Nat → Int32) × MUn) => r = (f_X8_sell to st un sec pe).1 ∧ u = (f_X8_sell to st un sec pe).2) (fun (u : (Nat → Int32) × MUn) t => va_P D vwCl (mW cI cL cZ ad to u.1 mt rd u.2 kp rw se) t.heap) A) 0 0 A := by
  refine Met.ofW (cc := cX8_sell) (maxL := 4) (ret := (some .int)) (by decide) rfl ?_
  intro p e s m args below meth c s₁ B hml hv
  obtain ⟨rfl, hP, hK, hD, hE⟩ := hv
  have hx := B.exec
  have hb := B.bytes
  have hr := B.returns
  have hts := atoms_spec (ws := wsX8_sell) B.pre
  have hown : s.vm.findClass RX8 = some m.cls := findClass_of_methodNamed B.named
  have hlocks := B.notSynchronized
  have hS : va_S A s.heap s.heap [] := va_S.rf
  have hl := lv_entry ([.ref (ad 0), .int sec, .int pe]) (n := 4) (Nat.le_of_ble_eq_true rfl)
  rw [lg_entry_eq]
  generalize (lg_sl ([.ref (ad 0), .int sec, .int pe]) ++ List.replicate (4 - (lg_sl ([.ref (ad 0), .int sec, .int pe])).length) Slot.unset).toArray = ls at hl ⊢
  have hl : lv_has ls 4 [(0, .ref (ad 0)), (1, .int sec), (2, .int pe)] := hl
  refine lv_iload_n hx hb dX8_sell_0 rfl (lv_at hl 2 rfl) ?_
  refine lv_iconst (v := (-1)) hx hb dX8_sell_1 rfl ?_
  refine lv_icmp_eq (tgt := 16) hx hb dX8_sell_2 (by decide) (fun c_1 => ?_) (fun c_1 => ?_)
  · refine lv_iload_n hx hb dX8_sell_16 rfl (lv_at hl 1 rfl) ?_
    refine lv_i2l hx hb dX8_sell_17 rfl ?_
    refine lv_lconst (v := 0) hx hb dX8_sell_18 rfl ?_
    refine lv_ldc2 (v := (59)) hx hb hown (hts (.constantLong RX8 157 (59)) (by decide +kernel)) dX8_sell_19 ?_
    refine vp_callSi (va_Run.run (va_runS (As := [.long sec.toInt64, .long (0 : Int64), .long (59 : Int64)]) (rest := []) ⟨hx, hb, hml, hown, hts⟩ (c_X8_in l sec.toInt64 (0 : Int64) (59 : Int64) ) (va_cwS 3 hts gX8_sell_X8_in rfl rfl rfl (by decide +kernel) ⟨Nat.le_of_ble_eq_true rfl, Nat.le_of_ble_eq_true rfl⟩) ⟨pR_fb, pR_at⟩ rfl rfl hl.1 rfl (lv_room (Nat.le_of_ble_eq_true rfl)) dX8_sell_22 ⟨Nat.zero_le _, Nat.zero_le _⟩)) (fun r hr => ?_)
    subst hr
    refine lv_if_ne (tgt := 31) hx hb dX8_sell_25 (by decide) (fun c_2 => ?_) (fun c_2 => ?_)
    · have hsl : sec.toNatClampNeg < 60 := in_lt (by decide) c_2
      have hl : lv_has ls 4 [(0, .ref (ad 0)), (1, .int (nI sec.toNatClampNeg)), (2, .int pe)] := by have h9 := hl; rw [in_nat c_2] at h9; exact h9
      refine lv_aload_n hx hb dX8_sell_31 rfl (lv_at hl 0 rfl) ?_
      refine va_get (D := D) (ci := 8) (v := .ref (ad 2)) (C := RX8) (T := TX8) (N := 18) hx hb hts (by decide +kernel) hown hK hP 0 rfl rfl 1 (by decide) (hts (.fieldLink RX8 13 "SummitTimeModel" "st" "[I") (by decide +kernel)) (fun _ h9 => h9) rfl dX8_sell_32 ?_
      refine lv_iload_n hx hb dX8_sell_35 rfl (lv_at hl 1 rfl) ?_
      refine mv_iald (f := st) hx hb hK hP 2 0 rfl rfl (by omega) (by decide) dX8_sell_36 ?_
      refine lv_istore_n (lv' := [(3, .int (st sec.toNatClampNeg)), (0, .ref (ad 0)), (1, .int (nI sec.toNatClampNeg)), (2, .int pe)]) hx hb dX8_sell_37 rfl hl (by decide) rfl (fun ls hl => ?_)
      refine lv_iload_n hx hb dX8_sell_38 rfl (lv_at hl 0 rfl) ?_
      refine lv_iload_n hx hb dX8_sell_39 rfl (lv_at hl 3 rfl) ?_
      refine lv_icmp_ne (tgt := 46) hx hb dX8_sell_40 (by decide) (fun c_3 => ?_) (fun c_3 => ?_)
      · refine lv_aload_n hx hb dX8_sell_46 rfl (lv_at hl 1 rfl) ?_
        refine va_callv (va_runV (As := []) (rest := []) ⟨hx, hb, hml, hown, hts⟩ (c_X8_note l D cI cL cZ ad A to st mt rd un kp rw se  (by first | assumption | omega)) (cwV 0 hts gX8_sell_X8_note rfl rfl rfl (by decide +kernel) ⟨Nat.le_of_ble_eq_true rfl, Nat.le_of_ble_eq_true rfl⟩) ⟨sR_fb, va_recv hK hP (ci := 8) (q0 := 0) rfl rfl, sR_at hP hK hD hE⟩ rfl rfl hl.1 rfl (lv_room (Nat.le_of_ble_eq_true rfl)) dX8_sell_47 ⟨Nat.zero_le _, Nat.zero_le _⟩) hS (fun q _ h => h) (fun q h => h) (fun u t H locs ht hvm hw hB hz1 hk1 hS => ?_)
        subst hw
        rw [ht] at hB
        have hP : va_P D vwCl (mW cI cL cZ ad to st mt rd (f_X8_note st un) kp rw se) H := hB
        have hD : va_D A (mW cI cL cZ ad to st mt rd (f_X8_note st un) kp rw se) := mW_D hD
        refine lv_aload_n hx hb dX8_sell_50 rfl (lv_at hl 1 rfl) ?_
        refine va_get (D := D) (ci := 8) (v := .ref (ad 2)) (C := RX8) (T := TX8) (N := 18) hx hb hts (by decide +kernel) hown hK hP 0 rfl rfl 1 (by decide) (hts (.fieldLink RX8 13 "SummitTimeModel" "st" "[I") (by decide +kernel)) (fun _ h9 => h9) rfl dX8_sell_51 ?_
        refine lv_iload_n hx hb dX8_sell_54 rfl (lv_at hl 2 rfl) ?_
        refine lv_iload_n hx hb dX8_sell_55 rfl (lv_at hl 3 rfl) ?_
        refine mv_iast (f := st) hx hb hK hP hD hS 2 0 rfl rfl (by omega) (by decide) dX8_sell_56 (fun H locs hP hD hS => ?_)
        have hP : va_P D vwCl (mW cI cL cZ ad to (upd st sec.toNatClampNeg pe) mt rd (f_X8_note st un) kp rw se) H := hP
        have hD : va_D A (mW cI cL cZ ad to (upd st sec.toNatClampNeg pe) mt rd (f_X8_note st un) kp rw se) := hD
        refine lv_iload_n hx hb dX8_sell_57 rfl (lv_at hl 0 rfl) ?_
        have hf : (f_X8_sell to st un sec pe) = ((st sec.toNatClampNeg), (upd st sec.toNatClampNeg pe), (f_X8_note st un)) := by rw [f_X8_sell, if_pos c_1, if_neg c_2, if_neg c_3]
        exact W.iret (v := (st sec.toNatClampNeg)) hx hb hr (fun t ht hW => ⟨⟨(st sec.toNatClampNeg), ((upd st sec.toNatClampNeg pe), (f_X8_note st un)), rfl, ⟨(congrArg Prod.fst hf).symm, (congrArg Prod.snd hf).symm⟩, va_Pt ht hP⟩, hS.F ht⟩) hS.2.2 dX8_sell_58
      · refine lv_bipush (v := (-4)) hx hb dX8_sell_43 rfl ?_
        have hf : (f_X8_sell to st un sec pe) = ((-4 : Int32), st, un) := by rw [f_X8_sell, if_pos c_1, if_neg c_2, if_pos c_3]
        exact W.iret (v := (-4 : Int32)) hx hb hr (fun t ht hW => ⟨⟨(-4 : Int32), (st, un), rfl, ⟨(congrArg Prod.fst hf).symm, (congrArg Prod.snd hf).symm⟩, va_Pt ht hP⟩, hS.F ht⟩) hS.2.2 dX8_sell_45
    · refine lv_bipush (v := (-3)) hx hb dX8_sell_28 rfl ?_
      have hf : (f_X8_sell to st un sec pe) = ((-3 : Int32), st, un) := by rw [f_X8_sell, if_pos c_1, if_pos c_2]
      exact W.iret (v := (-3 : Int32)) hx hb hr (fun t ht hW => ⟨⟨(-3 : Int32), (st, un), rfl, ⟨(congrArg Prod.fst hf).symm, (congrArg Prod.snd hf).symm⟩, va_Pt ht hP⟩, hS.F ht⟩) hS.2.2 dX8_sell_30
  · refine lv_aload_n hx hb dX8_sell_5 rfl (lv_at hl 0 rfl) ?_
    refine lv_iload_n hx hb dX8_sell_6 rfl (lv_at hl 2 rfl) ?_
    refine vp_callSi (va_Run.run (va_runV (As := [.int pe]) (rest := []) ⟨hx, hb, hml, hown, hts⟩ (c_X8_isPerson l D cI cL cZ ad A to st mt rd un kp rw se pe (by first | assumption | omega) (by first | assumption | omega)) (cwV 1 hts gX8_sell_X8_isPerson rfl rfl rfl (by decide +kernel) ⟨Nat.le_of_ble_eq_true rfl, Nat.le_of_ble_eq_true rfl⟩) ⟨sR_fb, va_recv hK hP (ci := 8) (q0 := 0) rfl rfl, sR_at hP hK hD hE⟩ rfl rfl hl.1 rfl (lv_room (Nat.le_of_ble_eq_true rfl)) dX8_sell_7 ⟨Nat.zero_le _, Nat.zero_le _⟩)) (fun r hr => ?_)
    subst hr
    refine lv_if_ne (tgt := 16) hx hb dX8_sell_10 (by decide) (fun c_4 => ?_) (fun c_4 => ?_)
    · refine lv_iload_n hx hb dX8_sell_16 rfl (lv_at hl 1 rfl) ?_
      refine lv_i2l hx hb dX8_sell_17 rfl ?_
      refine lv_lconst (v := 0) hx hb dX8_sell_18 rfl ?_
      refine lv_ldc2 (v := (59)) hx hb hown (hts (.constantLong RX8 157 (59)) (by decide +kernel)) dX8_sell_19 ?_
      refine vp_callSi (va_Run.run (va_runS (As := [.long sec.toInt64, .long (0 : Int64), .long (59 : Int64)]) (rest := []) ⟨hx, hb, hml, hown, hts⟩ (c_X8_in l sec.toInt64 (0 : Int64) (59 : Int64) ) (va_cwS 3 hts gX8_sell_X8_in rfl rfl rfl (by decide +kernel) ⟨Nat.le_of_ble_eq_true rfl, Nat.le_of_ble_eq_true rfl⟩) ⟨pR_fb, pR_at⟩ rfl rfl hl.1 rfl (lv_room (Nat.le_of_ble_eq_true rfl)) dX8_sell_22 ⟨Nat.zero_le _, Nat.zero_le _⟩)) (fun r hr => ?_)
      subst hr
      refine lv_if_ne (tgt := 31) hx hb dX8_sell_25 (by decide) (fun c_5 => ?_) (fun c_5 => ?_)
      · have hsl : sec.toNatClampNeg < 60 := in_lt (by decide) c_5
        have hl : lv_has ls 4 [(0, .ref (ad 0)), (1, .int (nI sec.toNatClampNeg)), (2, .int pe)] := by have h9 := hl; rw [in_nat c_5] at h9; exact h9
        refine lv_aload_n hx hb dX8_sell_31 rfl (lv_at hl 0 rfl) ?_
        refine va_get (D := D) (ci := 8) (v := .ref (ad 2)) (C := RX8) (T := TX8) (N := 18) hx hb hts (by decide +kernel) hown hK hP 0 rfl rfl 1 (by decide) (hts (.fieldLink RX8 13 "SummitTimeModel" "st" "[I") (by decide +kernel)) (fun _ h9 => h9) rfl dX8_sell_32 ?_
        refine lv_iload_n hx hb dX8_sell_35 rfl (lv_at hl 1 rfl) ?_
        refine mv_iald (f := st) hx hb hK hP 2 0 rfl rfl (by omega) (by decide) dX8_sell_36 ?_
        refine lv_istore_n (lv' := [(3, .int (st sec.toNatClampNeg)), (0, .ref (ad 0)), (1, .int (nI sec.toNatClampNeg)), (2, .int pe)]) hx hb dX8_sell_37 rfl hl (by decide) rfl (fun ls hl => ?_)
        refine lv_iload_n hx hb dX8_sell_38 rfl (lv_at hl 0 rfl) ?_
        refine lv_iload_n hx hb dX8_sell_39 rfl (lv_at hl 3 rfl) ?_
        refine lv_icmp_ne (tgt := 46) hx hb dX8_sell_40 (by decide) (fun c_6 => ?_) (fun c_6 => ?_)
        · refine lv_aload_n hx hb dX8_sell_46 rfl (lv_at hl 1 rfl) ?_
          refine va_callv (va_runV (As := []) (rest := []) ⟨hx, hb, hml, hown, hts⟩ (c_X8_note l D cI cL cZ ad A to st mt rd un kp rw se  (by first | assumption | omega)) (cwV 0 hts gX8_sell_X8_note rfl rfl rfl (by decide +kernel) ⟨Nat.le_of_ble_eq_true rfl, Nat.le_of_ble_eq_true rfl⟩) ⟨sR_fb, va_recv hK hP (ci := 8) (q0 := 0) rfl rfl, sR_at hP hK hD hE⟩ rfl rfl hl.1 rfl (lv_room (Nat.le_of_ble_eq_true rfl)) dX8_sell_47 ⟨Nat.zero_le _, Nat.zero_le _⟩) hS (fun q _ h => h) (fun q h => h) (fun u t H locs ht hvm hw hB hz1 hk1 hS => ?_)
          subst hw
          rw [ht] at hB
          have hP : va_P D vwCl (mW cI cL cZ ad to st mt rd (f_X8_note st un) kp rw se) H := hB
          have hD : va_D A (mW cI cL cZ ad to st mt rd (f_X8_note st un) kp rw se) := mW_D hD
          refine lv_aload_n hx hb dX8_sell_50 rfl (lv_at hl 1 rfl) ?_
          refine va_get (D := D) (ci := 8) (v := .ref (ad 2)) (C := RX8) (T := TX8) (N := 18) hx hb hts (by decide +kernel) hown hK hP 0 rfl rfl 1 (by decide) (hts (.fieldLink RX8 13 "SummitTimeModel" "st" "[I") (by decide +kernel)) (fun _ h9 => h9) rfl dX8_sell_51 ?_
          refine lv_iload_n hx hb dX8_sell_54 rfl (lv_at hl 2 rfl) ?_
          refine lv_iload_n hx hb dX8_sell_55 rfl (lv_at hl 3 rfl) ?_
          refine mv_iast (f := st) hx hb hK hP hD hS 2 0 rfl rfl (by omega) (by decide) dX8_sell_56 (fun H locs hP hD hS => ?_)
          have hP : va_P D vwCl (mW cI cL cZ ad to (upd st sec.toNatClampNeg pe) mt rd (f_X8_note st un) kp rw se) H := hP
          have hD : va_D A (mW cI cL cZ ad to (upd st sec.toNatClampNeg pe) mt rd (f_X8_note st un) kp rw se) := hD
          refine lv_iload_n hx hb dX8_sell_57 rfl (lv_at hl 0 rfl) ?_
          have hf : (f_X8_sell to st un sec pe) = ((st sec.toNatClampNeg), (upd st sec.toNatClampNeg pe), (f_X8_note st un)) := by rw [f_X8_sell, if_neg c_1, if_neg c_4, if_neg c_5, if_neg c_6]
          exact W.iret (v := (st sec.toNatClampNeg)) hx hb hr (fun t ht hW => ⟨⟨(st sec.toNatClampNeg), ((upd st sec.toNatClampNeg pe), (f_X8_note st un)), rfl, ⟨(congrArg Prod.fst hf).symm, (congrArg Prod.snd hf).symm⟩, va_Pt ht hP⟩, hS.F ht⟩) hS.2.2 dX8_sell_58
        · refine lv_bipush (v := (-4)) hx hb dX8_sell_43 rfl ?_
          have hf : (f_X8_sell to st un sec pe) = ((-4 : Int32), st, un) := by rw [f_X8_sell, if_neg c_1, if_neg c_4, if_neg c_5, if_pos c_6]
          exact W.iret (v := (-4 : Int32)) hx hb hr (fun t ht hW => ⟨⟨(-4 : Int32), (st, un), rfl, ⟨(congrArg Prod.fst hf).symm, (congrArg Prod.snd hf).symm⟩, va_Pt ht hP⟩, hS.F ht⟩) hS.2.2 dX8_sell_45
      · refine lv_bipush (v := (-3)) hx hb dX8_sell_28 rfl ?_
        have hf : (f_X8_sell to st un sec pe) = ((-3 : Int32), st, un) := by rw [f_X8_sell, if_neg c_1, if_neg c_4, if_pos c_5]
        exact W.iret (v := (-3 : Int32)) hx hb hr (fun t ht hW => ⟨⟨(-3 : Int32), (st, un), rfl, ⟨(congrArg Prod.fst hf).symm, (congrArg Prod.snd hf).symm⟩, va_Pt ht hP⟩, hS.F ht⟩) hS.2.2 dX8_sell_30
    · refine lv_bipush (v := (-2)) hx hb dX8_sell_13 rfl ?_
      have hf : (f_X8_sell to st un sec pe) = ((-2 : Int32), st, un) := by rw [f_X8_sell, if_neg c_1, if_pos c_4]
      exact W.iret (v := (-2 : Int32)) hx hb hr (fun t ht hW => ⟨⟨(-2 : Int32), (st, un), rfl, ⟨(congrArg Prod.fst hf).symm, (congrArg Prod.snd hf).symm⟩, va_Pt ht hP⟩, hS.F ht⟩) hS.2.2 dX8_sell_15
def L_X8_undo_22 (un : MUn) : Nat → Nat → (Nat → Int32) → (Nat → Int32)
  | 0, _, wst0_22 => wst0_22
  | n_22 + 1, k_22, wst0_22 => (L_X8_undo_22 un n_22 (k_22 + 1) (upd wst0_22 k_22 (un.1 ((73 * (un.2 - 1)) + k_22))))
def f_X8_undo (st : (Nat → Int32)) (un : MUn) : Int32 × (Nat → Int32) × MUn := (if un.2 = 0 then ((-4 : Int32), st, un) else (nI (un.2 - 1), (L_X8_undo_22 un 73 0 st), (un.1, (un.2 - 1))))
abbrev rm_X8_undo : Room := { frames := 0, cells := 0, slots := 0, locals := 0 }
set_option maxHeartbeats 4000000 in
set_option maxRecDepth 100000 in
theorem c_X8_undo (l : Launch) (D : va_G) (cI cL cZ : ClassId) (ad : Nat → Nat) (A : Nat → Prop) (to : (Nat → Int32)) (st : (Nat → Int32)) (mt : MTx) (rd : (Nat → Int32)) (un : MUn) (kp : MKp) (rw : MKp) (se : MUn)  (hun : un.2 ≤ 8) : Met l yX8_undo wsX8_undo rm_X8_undo (va_Pc [.ref (ad 0)] (sR D cI cL cZ A (mW cI cL cZ ad to st mt rd un kp rw se))) (va_Qi (fun (r : Int32) (u : (Nat → Int32) × MUn) => r = (f_X8_undo st un).1 ∧ u = (f_X8_undo st un).2) (fun (u : (Nat → Int32) × MUn) t => va_P D vwCl (mW cI cL cZ ad to u.1 mt rd u.2 kp rw se) t.heap) A) 0 0 A := by
  refine Met.ofW (cc := cX8_undo) (maxL := 2) (ret := (some .int)) (by decide) rfl ?_
  intro p e s m args below meth c s₁ B hml hv
  obtain ⟨rfl, hP, hK, hD, hE⟩ := hv
  have hx := B.exec
  have hb := B.bytes
  have hr := B.returns
  have hts := atoms_spec (ws := wsX8_undo) B.pre
  have hown : s.vm.findClass RX8 = some m.cls := findClass_of_methodNamed B.named
  have hlocks := B.notSynchronized
  have hS : va_S A s.heap s.heap [] := va_S.rf
  have hl := lv_entry ([.ref (ad 0)]) (n := 2) (Nat.le_of_ble_eq_true rfl)
  rw [lg_entry_eq]
  generalize (lg_sl ([.ref (ad 0)]) ++ List.replicate (2 - (lg_sl ([.ref (ad 0)])).length) Slot.unset).toArray = ls at hl ⊢
  have hl : lv_has ls 2 [(0, .ref (ad 0))] := hl
  obtain ⟨Q, hQe⟩ : ∃ Q, Q = MQ below (va_Qi (fun (r : Int32) (u : (Nat → Int32) × MUn) => r = (f_X8_undo st un).1 ∧ u = (f_X8_undo st un).2) (fun (u : (Nat → Int32) × MUn) t => va_P D vwCl (mW cI cL cZ ad to u.1 mt rd u.2 kp rw se) t.heap) A) ([.ref (ad 0)] : List Value).toArray s 0 0 A := ⟨_, rfl⟩
  show W p l e (headSpec wsX8_undo rm_X8_undo).room s m ([.ref (ad 0)] : List Value).toArray below meth c s.heap [] 0 0 (MQ below (va_Qi (fun (r : Int32) (u : (Nat → Int32) × MUn) => r = (f_X8_undo st un).1 ∧ u = (f_X8_undo st un).2) (fun (u : (Nat → Int32) × MUn) t => va_P D vwCl (mW cI cL cZ ad to u.1 mt rd u.2 kp rw se) t.heap) A) ([.ref (ad 0)] : List Value).toArray s 0 0 A) (F0 m 0 ls [])
  rw [← hQe]
  refine lv_aload_n hx hb dX8_undo_0 rfl (lv_at hl 0 rfl) ?_
  refine va_get (D := D) (ci := 8) (v := .int (nI un.2)) (C := RX8) (T := TX8) (N := 18) hx hb hts (by decide +kernel) hown hK hP 0 rfl rfl 11 (by decide) (hts (.fieldLink RX8 124 "SummitTimeModel" "undoMany" "I") (by decide +kernel)) (fun _ h9 => h9) rfl dX8_undo_1 ?_
  refine mv_if_ne (tgt := 10) hx hb dX8_undo_4 (by decide) (by omega) (fun c_1 => ?_) (fun c_1 => ?_)
  · refine lv_aload_n hx hb dX8_undo_10 rfl (lv_at hl 0 rfl) ?_
    refine lv_dup hx hb dX8_undo_11 rfl ?_
    refine va_get (D := D) (ci := 8) (v := .int (nI un.2)) (C := RX8) (T := TX8) (N := 18) hx hb hts (by decide +kernel) hown hK hP 0 rfl rfl 11 (by decide) (hts (.fieldLink RX8 124 "SummitTimeModel" "undoMany" "I") (by decide +kernel)) (fun _ h9 => h9) rfl dX8_undo_12 ?_
    refine lv_iconst (v := nI 1) hx hb dX8_undo_15 rfl ?_
    refine mv_isub hx hb dX8_undo_16 (by omega) ?_
    refine va_put (D := D) (ci := 8) (v := .int (nI (un.2 - 1))) (ty := .int) (C := RX8) (T := TX8) (N := 18) hx hb hts (by decide +kernel) tyX8 tyX8_ok nmX8 hown hK hP hD hS 0 rfl rfl 11 (by decide) (hts (.fieldLink RX8 124 "SummitTimeModel" "undoMany" "I") (by decide +kernel)) (fun _ h9 => h9) rfl (by decide +kernel) rfl rfl (Nat.le_of_ble_eq_true rfl) dX8_undo_17 (fun H locs hP hD hS => ?_)
    have hP : va_P D vwCl (mW cI cL cZ ad to st mt rd (un.1, (un.2 - 1)) kp rw se) H := hP
    have hD : va_D A (mW cI cL cZ ad to st mt rd (un.1, (un.2 - 1)) kp rw se) := hD
    refine lv_iconst (v := nI 0) hx hb dX8_undo_20 rfl ?_
    refine lv_istore_n (lv' := [(1, .int (nI 0)), (0, .ref (ad 0))]) hx hb dX8_undo_21 rfl hl (by decide) rfl (fun ls hl => ?_)
    obtain ⟨T_22_1, hT_22_1⟩ : ∃ z, z = (L_X8_undo_22 un 73 0 st) := ⟨_, rfl⟩
    have hexit_22 : ∀ (H : Heap) (locs : List Loc) (ls : Array Slot), va_P D vwCl (mW cI cL cZ ad to T_22_1 mt rd (un.1, (un.2 - 1)) kp rw se) H → va_S A s.heap H locs → lv_has ls 2 [(0, .ref (ad 0))] → W p l e (headSpec wsX8_undo rm_X8_undo).room s m ([.ref (ad 0)] : List Value).toArray below meth c H locs 0 0 Q (F0 m 54 ls []) := by
      intro H locs ls hP hS hl
      have hD : va_D A (mW cI cL cZ ad to T_22_1 mt rd (un.1, (un.2 - 1)) kp rw se) := mW_D hD
      refine lv_aload_n hx hb dX8_undo_54 rfl (lv_at hl 0 rfl) ?_
      refine va_get (D := D) (ci := 8) (v := .int (nI (un.2 - 1))) (C := RX8) (T := TX8) (N := 18) hx hb hts (by decide +kernel) hown hK hP 0 rfl rfl 11 (by decide) (hts (.fieldLink RX8 124 "SummitTimeModel" "undoMany" "I") (by decide +kernel)) (fun _ h9 => h9) rfl dX8_undo_55 ?_
      subst hQe
      have hf : (f_X8_undo st un) = (nI (un.2 - 1), T_22_1, (un.1, (un.2 - 1))) := by subst hT_22_1; rw [f_X8_undo, if_neg c_1]
      exact W.iret (v := nI (un.2 - 1)) hx hb hr (fun t ht hW => ⟨⟨nI (un.2 - 1), (T_22_1, (un.1, (un.2 - 1))), rfl, ⟨(congrArg Prod.fst hf).symm, (congrArg Prod.snd hf).symm⟩, va_Pt ht hP⟩, hS.F ht⟩) hS.2.2 dX8_undo_58
    have loop_22 : ∀ (n_22 : Nat) (k_22 : Nat) (wst0_22 : Nat → Int32), (k_22 + n_22 = 73) → L_X8_undo_22 un n_22 k_22 wst0_22 = T_22_1 → ∀ (H : Heap) (locs : List Loc) (ls : Array Slot), va_P D vwCl (mW cI cL cZ ad to wst0_22 mt rd (un.1, (un.2 - 1)) kp rw se) H → va_S A s.heap H locs → lv_has ls 2 [(1, .int (nI k_22)), (0, .ref (ad 0))] → W p l e (headSpec wsX8_undo rm_X8_undo).room s m ([.ref (ad 0)] : List Value).toArray below meth c H locs 0 0 Q (F0 m 22 ls []) := by
      intro n_22
      induction n_22 with
      | zero =>
        intro k_22 wst0_22 hk_22 hL_22 H locs ls hP hS hl
        have hD : va_D A (mW cI cL cZ ad to wst0_22 mt rd (un.1, (un.2 - 1)) kp rw se) := mW_D hD
        refine lv_iload_n hx hb dX8_undo_22 rfl (lv_at hl 0 rfl) ?_
        refine lv_bipush (v := nI 73) hx hb dX8_undo_23 rfl ?_
        refine mv_icmp_ge (tgt := 54) hx hb dX8_undo_25 (by decide) (by omega) (by decide) (fun c_3 => ?_) (fun c_3 => (by omega : False).elim)
        have e9 : T_22_1 = wst0_22 := by rw [← hL_22, L_X8_undo_22]
        have hq := hexit_22
        rw [e9] at hq
        exact hq _ _ ls  hP hS (lv_sub hl [1] rfl)
      | succ n_22 ih_22 =>
        intro k_22 wst0_22 hk_22 hL_22 H locs ls hP hS hl
        have hD : va_D A (mW cI cL cZ ad to wst0_22 mt rd (un.1, (un.2 - 1)) kp rw se) := mW_D hD
        refine lv_iload_n hx hb dX8_undo_22 rfl (lv_at hl 0 rfl) ?_
        refine lv_bipush (v := nI 73) hx hb dX8_undo_23 rfl ?_
        refine mv_icmp_ge (tgt := 54) hx hb dX8_undo_25 (by decide) (by omega) (by decide) (fun c_2 => (by omega : False).elim) (fun c_2 => ?_)
        refine lv_aload_n hx hb dX8_undo_28 rfl (lv_at hl 1 rfl) ?_
        refine va_get (D := D) (ci := 8) (v := .ref (ad 2)) (C := RX8) (T := TX8) (N := 18) hx hb hts (by decide +kernel) hown hK hP 0 rfl rfl 1 (by decide) (hts (.fieldLink RX8 13 "SummitTimeModel" "st" "[I") (by decide +kernel)) (fun _ h9 => h9) rfl dX8_undo_29 ?_
        refine lv_iload_n hx hb dX8_undo_32 rfl (lv_at hl 0 rfl) ?_
        refine lv_aload_n hx hb dX8_undo_33 rfl (lv_at hl 1 rfl) ?_
        refine va_get (D := D) (ci := 8) (v := .ref (ad 5)) (C := RX8) (T := TX8) (N := 18) hx hb hts (by decide +kernel) hown hK hP 0 rfl rfl 10 (by decide) (hts (.fieldLink RX8 22 "SummitTimeModel" "ahead" "[I") (by decide +kernel)) (fun _ h9 => h9) rfl dX8_undo_34 ?_
        refine lv_bipush (v := nI 73) hx hb dX8_undo_37 rfl ?_
        refine lv_aload_n hx hb dX8_undo_39 rfl (lv_at hl 1 rfl) ?_
        refine va_get (D := D) (ci := 8) (v := .int (nI (un.2 - 1))) (C := RX8) (T := TX8) (N := 18) hx hb hts (by decide +kernel) hown hK hP 0 rfl rfl 11 (by decide) (hts (.fieldLink RX8 124 "SummitTimeModel" "undoMany" "I") (by decide +kernel)) (fun _ h9 => h9) rfl dX8_undo_40 ?_
        refine mv_imul hx hb dX8_undo_43 ?_
        refine lv_iload_n hx hb dX8_undo_44 rfl (lv_at hl 0 rfl) ?_
        refine mv_iadd hx hb dX8_undo_45 ?_
        refine mv_iald (f := un.1) hx hb hK hP 5 0 rfl rfl (by omega) (by decide) dX8_undo_46 ?_
        refine mv_iast (f := wst0_22) hx hb hK hP hD hS 2 0 rfl rfl (by omega) (by decide) dX8_undo_47 (fun H locs hP hD hS => ?_)
        have hP : va_P D vwCl (mW cI cL cZ ad to (upd wst0_22 k_22 (un.1 ((73 * (un.2 - 1)) + k_22))) mt rd (un.1, (un.2 - 1)) kp rw se) H := hP
        have hD : va_D A (mW cI cL cZ ad to (upd wst0_22 k_22 (un.1 ((73 * (un.2 - 1)) + k_22))) mt rd (un.1, (un.2 - 1)) kp rw se) := hD
        refine mv_iinc (y := k_22 + 1) (lv' := [(1, .int (nI (k_22 + 1))), (0, .ref (ad 0))]) hx hb dX8_undo_48 hl (k := 0) rfl (nI_p1 _) (by decide) rfl (fun ls hl => ?_)
        refine lv_goto (tgt := 22) hx hb dX8_undo_51 (by decide) ?_
        exact ih_22 (k_22 + 1) (upd wst0_22 k_22 (un.1 ((73 * (un.2 - 1)) + k_22))) (by omega) (by have e9 := hL_22; rw [L_X8_undo_22] at e9; exact e9) _ _ ls hP hS (lv_sub hl [0, 1] rfl)
    exact loop_22 73 0 st (by omega) hT_22_1.symm _ _ ls hP hS (lv_sub hl [0, 1] rfl)
  · refine lv_bipush (v := (-4)) hx hb dX8_undo_7 rfl ?_
    subst hQe
    have hf : (f_X8_undo st un) = ((-4 : Int32), st, un) := by rw [f_X8_undo, if_pos c_1]
    exact W.iret (v := (-4 : Int32)) hx hb hr (fun t ht hW => ⟨⟨(-4 : Int32), (st, un), rfl, ⟨(congrArg Prod.fst hf).symm, (congrArg Prod.snd hf).symm⟩, va_Pt ht hP⟩, hS.F ht⟩) hS.2.2 dX8_undo_9
