def L_X8_isOrder_11  : Nat → Int32 → Nat → (Nat → Int32) → Int32 × Nat × (Nat → Int32)
  | 0, x5_11, x4_11, wrw0_11 => (x5_11, x4_11, wrw0_11)
  | n_11 + 1, x5_11, x4_11, wrw0_11 => (L_X8_isOrder_11 n_11 (x5_11 ||| ((nI 1) <<< (((upd wrw0_11 n_11 (nI (x4_11 % 6))) n_11) &&& 31))) (x4_11 / 6) (upd wrw0_11 n_11 (nI (x4_11 % 6))))
def f_X8_isOrder (rw : MKp) (r_ : Nat) (set : Int32) (nn : Nat) : Int32 × MKp := ((if (L_X8_isOrder_11 nn (nI 0) r_ rw.1).1 = set then nI 1 else nI 0), ((L_X8_isOrder_11 nn (nI 0) r_ rw.1).2.2, rw.2))
theorem f_X8_isOrder_b (rw : MKp) (r_ : Nat) (set : Int32) (nn : Nat) : (f_X8_isOrder rw r_ set nn).1 = nI 0 ∨ (f_X8_isOrder rw r_ set nn).1 = nI 1 := by
  unfold f_X8_isOrder
  (repeat' split) <;> first | exact Or.inl rfl | exact Or.inr rfl | exact f_X8_in_b _ _ _
abbrev rm_X8_isOrder : Room := { frames := 0, cells := 0, slots := 0, locals := 0 }
set_option maxHeartbeats 4000000 in
set_option maxRecDepth 100000 in
theorem c_X8_isOrder (l : Launch) (D : va_G) (cI cL cZ : ClassId) (ad : Nat → Nat) (A : Nat → Prop) (to : (Nat → Int32)) (st : (Nat → Int32)) (mt : MTx) (rd : (Nat → Int32)) (un : MUn) (kp : MKp) (rw : MKp) (se : MUn) (r_ : Nat) (set : Int32) (nn : Nat) (hr : r_ < 46656) (hnn : nn ≤ 6) : Met l yX8_isOrder wsX8_isOrder rm_X8_isOrder (va_Pc [.ref (ad 0), .int (nI r_), .int set, .int (nI nn)] (sR D cI cL cZ A (mW cI cL cZ ad to st mt rd un kp rw se))) (va_Qi (fun (r : Int32) (u : MKp) => r = (f_X8_isOrder rw r_ set nn).1 ∧ u = (f_X8_isOrder rw r_ set nn).2) (fun (u : MKp) t => va_P D vwCl (mW cI cL cZ ad to st mt rd un kp u se) t.heap) A) 0 0 A := by
  refine Met.ofW (cc := cX8_isOrder) (maxL := 7) (ret := (some .boolean)) (by decide) rfl ?_
  intro p e s m args below meth c s₁ B hml hv
  obtain ⟨rfl, hP, hK, hD, hE⟩ := hv
  have hx := B.exec
  have hb := B.bytes
  have hr := B.returns
  have hts := atoms_spec (ws := wsX8_isOrder) B.pre
  have hown : s.vm.findClass RX8 = some m.cls := findClass_of_methodNamed B.named
  have hlocks := B.notSynchronized
  have hS : va_S A s.heap s.heap [] := va_S.rf
  have hl := lv_entry ([.ref (ad 0), .int (nI r_), .int set, .int (nI nn)]) (n := 7) (Nat.le_of_ble_eq_true rfl)
  rw [lg_entry_eq]
  generalize (lg_sl ([.ref (ad 0), .int (nI r_), .int set, .int (nI nn)]) ++ List.replicate (7 - (lg_sl ([.ref (ad 0), .int (nI r_), .int set, .int (nI nn)])).length) Slot.unset).toArray = ls at hl ⊢
  have hl : lv_has ls 7 [(0, .ref (ad 0)), (1, .int (nI r_)), (2, .int set), (3, .int (nI nn))] := hl
  obtain ⟨Q, hQe⟩ : ∃ Q, Q = MQ below (va_Qi (fun (r : Int32) (u : MKp) => r = (f_X8_isOrder rw r_ set nn).1 ∧ u = (f_X8_isOrder rw r_ set nn).2) (fun (u : MKp) t => va_P D vwCl (mW cI cL cZ ad to st mt rd un kp u se) t.heap) A) ([.ref (ad 0), .int (nI r_), .int set, .int (nI nn)] : List Value).toArray s 0 0 A := ⟨_, rfl⟩
  show W p l e (headSpec wsX8_isOrder rm_X8_isOrder).room s m ([.ref (ad 0), .int (nI r_), .int set, .int (nI nn)] : List Value).toArray below meth c s.heap [] 0 0 (MQ below (va_Qi (fun (r : Int32) (u : MKp) => r = (f_X8_isOrder rw r_ set nn).1 ∧ u = (f_X8_isOrder rw r_ set nn).2) (fun (u : MKp) t => va_P D vwCl (mW cI cL cZ ad to st mt rd un kp u se) t.heap) A) ([.ref (ad 0), .int (nI r_), .int set, .int (nI nn)] : List Value).toArray s 0 0 A) (F0 m 0 ls [])
  rw [← hQe]
  refine lv_iload_n hx hb dX8_isOrder_0 rfl (lv_at hl 1 rfl) ?_
  refine lv_istore (lv' := [(4, .int (nI r_)), (0, .ref (ad 0)), (1, .int (nI r_)), (2, .int set), (3, .int (nI nn))]) hx hb dX8_isOrder_1 hl (by decide) rfl (fun ls hl => ?_)
  refine lv_iconst (v := nI 0) hx hb dX8_isOrder_3 rfl ?_
  refine lv_istore (lv' := [(5, .int (nI 0)), (4, .int (nI r_)), (0, .ref (ad 0)), (1, .int (nI r_)), (2, .int set), (3, .int (nI nn))]) hx hb dX8_isOrder_4 hl (by decide) rfl (fun ls hl => ?_)
  refine lv_iload_n hx hb dX8_isOrder_6 rfl (lv_at hl 5 rfl) ?_
  refine lv_iconst (v := nI 1) hx hb dX8_isOrder_7 rfl ?_
  refine lv_isub hx hb dX8_isOrder_8 ?_
  refine lv_istore (lv' := [(6, .int ((nI nn) - (nI 1))), (5, .int (nI 0)), (4, .int (nI r_)), (0, .ref (ad 0)), (1, .int (nI r_)), (2, .int set), (3, .int (nI nn))]) hx hb dX8_isOrder_9 hl (by decide) rfl (fun ls hl => ?_)
  obtain ⟨T_11_1, hT_11_1⟩ : ∃ z, z = (L_X8_isOrder_11 nn (nI 0) r_ rw.1) := ⟨_, rfl⟩
  have hexit_11 : ∀ (H : Heap) (locs : List Loc) (ls : Array Slot), va_P D vwCl (mW cI cL cZ ad to st mt rd un kp (T_11_1.2.2, rw.2) se) H → va_S A s.heap H locs → lv_has ls 7 [(5, .int T_11_1.1), (4, .int (nI T_11_1.2.1)), (0, .ref (ad 0)), (1, .int (nI r_)), (2, .int set), (3, .int (nI nn))] → W p l e (headSpec wsX8_isOrder rm_X8_isOrder).room s m ([.ref (ad 0), .int (nI r_), .int set, .int (nI nn)] : List Value).toArray below meth c H locs 0 0 Q (F0 m 55 ls []) := by
    intro H locs ls hP hS hl
    have hD : va_D A (mW cI cL cZ ad to st mt rd un kp (T_11_1.2.2, rw.2) se) := mW_D hD
    refine lv_iload hx hb dX8_isOrder_55 (lv_at hl 0 rfl) ?_
    refine lv_iload_n hx hb dX8_isOrder_57 rfl (lv_at hl 4 rfl) ?_
    refine mv_phi (v := (if T_11_1.1 = set then nI 1 else nI 0)) (pcj := 66) (ls := ls) (rest' := []) ?_ (fun J_2 => ?_)
    · subst hQe
      have hf : (f_X8_isOrder rw r_ set nn) = ((if T_11_1.1 = set then nI 1 else nI 0), (T_11_1.2.2, rw.2)) := by subst hT_11_1; rw [f_X8_isOrder]
      exact W.zret (v := (if T_11_1.1 = set then nI 1 else nI 0)) (ty := .boolean) hx hb hr nb_if2 (fun t ht hW => ⟨⟨(if T_11_1.1 = set then nI 1 else nI 0), (T_11_1.2.2, rw.2), rfl, ⟨(congrArg Prod.fst hf).symm, (congrArg Prod.snd hf).symm⟩, va_Pt ht hP⟩, hS.F ht⟩) hS.2.2 dX8_isOrder_66
    · refine lv_icmp_ne (tgt := 65) hx hb dX8_isOrder_58 (by decide) (fun c_3 => ?_) (fun c_3 => ?_)
      · refine lv_iconst (v := nI 0) hx hb dX8_isOrder_65 rfl ?_
        exact J_2 _ (by rw [if_neg c_3])
      · refine lv_iconst (v := nI 1) hx hb dX8_isOrder_61 rfl ?_
        refine lv_goto (tgt := 66) hx hb dX8_isOrder_62 (by decide) ?_
        exact J_2 _ (by rw [if_pos c_3])
  have loop_11 : ∀ (n_11 : Nat) (x5_11 : Int32) (x4_11 : Nat) (wrw0_11 : Nat → Int32), (x4_11 < 46656) → (n_11 ≤ 6) → L_X8_isOrder_11 n_11 x5_11 x4_11 wrw0_11 = T_11_1 → ∀ (H : Heap) (locs : List Loc) (ls : Array Slot), va_P D vwCl (mW cI cL cZ ad to st mt rd un kp (wrw0_11, rw.2) se) H → va_S A s.heap H locs → lv_has ls 7 [(6, .int (nI n_11 - 1)), (5, .int x5_11), (4, .int (nI x4_11)), (0, .ref (ad 0)), (1, .int (nI r_)), (2, .int set), (3, .int (nI nn))] → W p l e (headSpec wsX8_isOrder rm_X8_isOrder).room s m ([.ref (ad 0), .int (nI r_), .int set, .int (nI nn)] : List Value).toArray below meth c H locs 0 0 Q (F0 m 11 ls []) := by
    intro n_11
    induction n_11 with
    | zero =>
      intro x5_11 x4_11 wrw0_11 hx4 hd hL_11 H locs ls hP hS hl
      have hD : va_D A (mW cI cL cZ ad to st mt rd un kp (wrw0_11, rw.2) se) := mW_D hD
      rw [show nI 0 - 1 = (-1 : Int32) by decide] at hl
      refine lv_iload hx hb dX8_isOrder_11 (lv_at hl 0 rfl) ?_
      refine lv_if_lt (tgt := 55) hx hb dX8_isOrder_13 (by decide) (fun c_1 => ?_) (fun c_1 => absurd c_1 (by decide))
      have e9 : T_11_1 = (x5_11, x4_11, wrw0_11) := by rw [← hL_11, L_X8_isOrder_11]
      have hq := hexit_11
      rw [e9] at hq
      exact hq _ _ ls  hP hS (lv_sub hl [1, 2, 3, 4, 5, 6] rfl)
    | succ n_11 ih_11 =>
      intro x5_11 x4_11 wrw0_11 hx4 hd hL_11 H locs ls hP hS hl
      have hD : va_D A (mW cI cL cZ ad to st mt rd un kp (wrw0_11, rw.2) se) := mW_D hD
      rw [nI_pred] at hl
      refine lv_iload hx hb dX8_isOrder_11 (lv_at hl 0 rfl) ?_
      refine mv_if_lt (tgt := 55) hx hb dX8_isOrder_13 (by decide) (by omega) ?_
      refine lv_aload_n hx hb dX8_isOrder_16 rfl (lv_at hl 3 rfl) ?_
      refine va_get (D := D) (ci := 8) (v := .ref (ad 8)) (C := RX8) (T := TX8) (N := 18) hx hb hts (by decide +kernel) hown hK hP 0 rfl rfl 14 (by decide) (hts (.fieldLink RX8 32 "SummitTimeModel" "row" "[I") (by decide +kernel)) (fun _ h9 => h9) rfl dX8_isOrder_17 ?_
      refine lv_iload hx hb dX8_isOrder_20 (lv_at hl 0 rfl) ?_
      refine lv_iload hx hb dX8_isOrder_22 (lv_at hl 2 rfl) ?_
      refine lv_bipush (v := nI 6) hx hb dX8_isOrder_24 rfl ?_
      refine mv_irem hx hb dX8_isOrder_26 (by omega) (by omega) (by omega) ?_
      refine mv_iast (f := wrw0_11) hx hb hK hP hD hS 8 0 rfl rfl (by omega) (by decide) dX8_isOrder_27 (fun H locs hP hD hS => ?_)
      have hP : va_P D vwCl (mW cI cL cZ ad to st mt rd un kp ((upd wrw0_11 n_11 (nI (x4_11 % 6))), rw.2) se) H := hP
      have hD : va_D A (mW cI cL cZ ad to st mt rd un kp ((upd wrw0_11 n_11 (nI (x4_11 % 6))), rw.2) se) := hD
      refine lv_iload hx hb dX8_isOrder_28 (lv_at hl 1 rfl) ?_
      refine lv_iconst (v := nI 1) hx hb dX8_isOrder_30 rfl ?_
      refine lv_aload_n hx hb dX8_isOrder_31 rfl (lv_at hl 3 rfl) ?_
      refine va_get (D := D) (ci := 8) (v := .ref (ad 8)) (C := RX8) (T := TX8) (N := 18) hx hb hts (by decide +kernel) hown hK hP 0 rfl rfl 14 (by decide) (hts (.fieldLink RX8 32 "SummitTimeModel" "row" "[I") (by decide +kernel)) (fun _ h9 => h9) rfl dX8_isOrder_32 ?_
      refine lv_iload hx hb dX8_isOrder_35 (lv_at hl 0 rfl) ?_
      refine mv_iald (f := (upd wrw0_11 n_11 (nI (x4_11 % 6)))) hx hb hK hP 8 0 rfl rfl (by omega) (by decide) dX8_isOrder_37 ?_
      refine lv_ishl hx hb dX8_isOrder_38 ?_
      refine lv_ior hx hb dX8_isOrder_39 ?_
      refine lv_istore (lv' := [(5, .int (x5_11 ||| ((nI 1) <<< (((upd wrw0_11 n_11 (nI (x4_11 % 6))) n_11) &&& 31)))), (6, .int (nI n_11)), (4, .int (nI x4_11)), (0, .ref (ad 0)), (1, .int (nI r_)), (2, .int set), (3, .int (nI nn))]) hx hb dX8_isOrder_40 hl (by decide) rfl (fun ls hl => ?_)
      refine lv_iload hx hb dX8_isOrder_42 (lv_at hl 2 rfl) ?_
      refine lv_bipush (v := nI 6) hx hb dX8_isOrder_44 rfl ?_
      refine mv_idiv hx hb dX8_isOrder_46 (by omega) (by omega) (by omega) ?_
      refine lv_istore (lv' := [(4, .int (nI (x4_11 / 6))), (5, .int (x5_11 ||| ((nI 1) <<< (((upd wrw0_11 n_11 (nI (x4_11 % 6))) n_11) &&& 31)))), (6, .int (nI n_11)), (0, .ref (ad 0)), (1, .int (nI r_)), (2, .int set), (3, .int (nI nn))]) hx hb dX8_isOrder_47 hl (by decide) rfl (fun ls hl => ?_)
      refine lv_iinc (v := nI n_11 - 1) (lv' := [(6, .int (nI n_11 - 1)), (4, .int (nI (x4_11 / 6))), (5, .int (x5_11 ||| ((nI 1) <<< (((upd wrw0_11 n_11 (nI (x4_11 % 6))) n_11) &&& 31)))), (0, .ref (ad 0)), (1, .int (nI r_)), (2, .int set), (3, .int (nI nn))]) hx hb dX8_isOrder_49 hl (k := 2) rfl (nI_dn _) (by decide) rfl (fun ls hl => ?_)
      refine lv_goto (tgt := 11) hx hb dX8_isOrder_52 (by decide) ?_
      exact ih_11 (x5_11 ||| ((nI 1) <<< (((upd wrw0_11 n_11 (nI (x4_11 % 6))) n_11) &&& 31))) (x4_11 / 6) (upd wrw0_11 n_11 (nI (x4_11 % 6))) (by omega) (by omega) (by have e9 := hL_11; rw [L_X8_isOrder_11] at e9; exact e9) _ _ ls hP hS (lv_sub hl [0, 2, 1, 3, 4, 5, 6] rfl)
  exact loop_11 nn (nI 0) r_ rw.1 (by omega) (by omega) hT_11_1.symm _ _ ls hP hS (by have h9 := lv_sub hl [0, 1, 2, 3, 4, 5, 6] rfl; rw [show (((nI nn) - (nI 1)) : Int32) = nI nn - 1 from rfl] at h9; exact h9)
def L_X8_rowFine_2  : Nat → Nat → (Nat → Int32) → (Nat → Int32)
  | 0, _, wst0_2 => wst0_2
  | n_2 + 1, k_2, wst0_2 => (L_X8_rowFine_2 n_2 (k_2 + 1) (upd wst0_2 (60 + k_2) (-1 : Int32)))
def L_X8_rowFine_32 (to : (Nat → Int32)) (rw : MKp) : Nat → Nat → Int32 → Int32 → (Nat → Int32) → Int32 × Int32 × (Nat → Int32)
  | 0, _, x4_32, x3_32, wst0_32 => (x4_32, x3_32, wst0_32)
  | n_32 + 1, k_32, x4_32, x3_32, wst0_32 => (L_X8_rowFine_32 to rw n_32 (k_32 + 1) (if x4_32 = 0 then nI 0 else (if nI 60 ≤ x3_32 then nI 0 else nI 1)) ((f_X8_thereBy to (upd wst0_32 (60 + ((rw.1 k_32).toNatClampNeg)) x3_32) ((rw.1 k_32).toNatClampNeg) x3_32) + (to (13 + ((rw.1 k_32).toNatClampNeg)))) (upd wst0_32 (60 + ((rw.1 k_32).toNatClampNeg)) x3_32))
def L_X8_rowFine_113 (to : (Nat → Int32)) (rw : MKp) (T_32 : Int32 × Int32 × (Nat → Int32)) : Nat → Nat → Int32 → Int32
  | 0, _, x5_113 => x5_113
  | n_113 + 1, k_113, x5_113 => (L_X8_rowFine_113 to rw T_32 n_113 (k_113 + 1) (x5_113 + (f_X8_fineOf to T_32.2.2 ((rw.1 k_113).toNatClampNeg))))
def f_X8_rowFine (to : (Nat → Int32)) (st : (Nat → Int32)) (rw : MKp) (nn : Nat) (aa : Int32) : Int32 × (Nat → Int32) := ((if (L_X8_rowFine_32 to rw nn 0 (nI 1) aa (L_X8_rowFine_2 6 0 st)).1 = 0 then (-1 : Int32) else (L_X8_rowFine_113 to rw (L_X8_rowFine_32 to rw nn 0 (nI 1) aa (L_X8_rowFine_2 6 0 st)) nn 0 (nI 0))), (L_X8_rowFine_32 to rw nn 0 (nI 1) aa (L_X8_rowFine_2 6 0 st)).2.2)
abbrev rm_X8_rowFine : Room := { frames := 5, cells := 0, slots := 0, locals := 113 }
set_option maxHeartbeats 4000000 in
set_option maxRecDepth 100000 in
theorem c_X8_rowFine (l : Launch) (D : va_G) (cI cL cZ : ClassId) (ad : Nat → Nat) (A : Nat → Prop) (to : (Nat → Int32)) (st : (Nat → Int32)) (mt : MTx) (rd : (Nat → Int32)) (un : MUn) (kp : MKp) (rw : MKp) (se : MUn) (nn : Nat) (aa : Int32) (hnn : nn ≤ 6) (hso : ∀ j, j < 60 → (st j).toNatClampNeg < 6) (hrw : ∀ j, j < 6 → (rw.1 j = nI (rw.1 j).toNatClampNeg ∧ (rw.1 j).toNatClampNeg < 6)) : Met l yX8_rowFine wsX8_rowFine rm_X8_rowFine (va_Pc [.ref (ad 0), .int (nI nn), .int aa] (sR D cI cL cZ A (mW cI cL cZ ad to st mt rd un kp rw se))) (va_Qi (fun (r : Int32) (u : (Nat → Int32)) => r = (f_X8_rowFine to st rw nn aa).1 ∧ u = (f_X8_rowFine to st rw nn aa).2) (fun (u : (Nat → Int32)) t => va_P D vwCl (mW cI cL cZ ad to u mt rd un kp rw se) t.heap) A) 0 0 A := by
  refine Met.ofW (cc := cX8_rowFine) (maxL := 7) (ret := (some .int)) (by decide) rfl ?_
  intro p e s m args below meth c s₁ B hml hv
  obtain ⟨rfl, hP, hK, hD, hE⟩ := hv
  have hx := B.exec
  have hb := B.bytes
  have hr := B.returns
  have hts := atoms_spec (ws := wsX8_rowFine) B.pre
  have hown : s.vm.findClass RX8 = some m.cls := findClass_of_methodNamed B.named
  have hlocks := B.notSynchronized
  have hS : va_S A s.heap s.heap [] := va_S.rf
  have hl := lv_entry ([.ref (ad 0), .int (nI nn), .int aa]) (n := 7) (Nat.le_of_ble_eq_true rfl)
  rw [lg_entry_eq]
  generalize (lg_sl ([.ref (ad 0), .int (nI nn), .int aa]) ++ List.replicate (7 - (lg_sl ([.ref (ad 0), .int (nI nn), .int aa])).length) Slot.unset).toArray = ls at hl ⊢
  have hl : lv_has ls 7 [(0, .ref (ad 0)), (1, .int (nI nn)), (2, .int aa)] := hl
  obtain ⟨Q, hQe⟩ : ∃ Q, Q = MQ below (va_Qi (fun (r : Int32) (u : (Nat → Int32)) => r = (f_X8_rowFine to st rw nn aa).1 ∧ u = (f_X8_rowFine to st rw nn aa).2) (fun (u : (Nat → Int32)) t => va_P D vwCl (mW cI cL cZ ad to u mt rd un kp rw se) t.heap) A) ([.ref (ad 0), .int (nI nn), .int aa] : List Value).toArray s 0 0 A := ⟨_, rfl⟩
  show W p l e (headSpec wsX8_rowFine rm_X8_rowFine).room s m ([.ref (ad 0), .int (nI nn), .int aa] : List Value).toArray below meth c s.heap [] 0 0 (MQ below (va_Qi (fun (r : Int32) (u : (Nat → Int32)) => r = (f_X8_rowFine to st rw nn aa).1 ∧ u = (f_X8_rowFine to st rw nn aa).2) (fun (u : (Nat → Int32)) t => va_P D vwCl (mW cI cL cZ ad to u mt rd un kp rw se) t.heap) A) ([.ref (ad 0), .int (nI nn), .int aa] : List Value).toArray s 0 0 A) (F0 m 0 ls [])
  rw [← hQe]
  refine lv_iconst (v := nI 0) hx hb dX8_rowFine_0 rfl ?_
  refine lv_istore_n (lv' := [(3, .int (nI 0)), (0, .ref (ad 0)), (1, .int (nI nn)), (2, .int aa)]) hx hb dX8_rowFine_1 rfl hl (by decide) rfl (fun ls hl => ?_)
  obtain ⟨T_2_1, hT_2_1⟩ : ∃ z, z = (L_X8_rowFine_2 6 0 st) := ⟨_, rfl⟩
  have hexit_2 : ∀ (H : Heap) (locs : List Loc) (ls : Array Slot), (∀ j, j < 60 → (T_2_1 j).toNatClampNeg < 6) → va_P D vwCl (mW cI cL cZ ad to T_2_1 mt rd un kp rw se) H → va_S A s.heap H locs → lv_has ls 7 [(0, .ref (ad 0)), (1, .int (nI nn)), (2, .int aa)] → W p l e (headSpec wsX8_rowFine rm_X8_rowFine).room s m ([.ref (ad 0), .int (nI nn), .int aa] : List Value).toArray below meth c H locs 0 0 Q (F0 m 24 ls []) := by
    intro H locs ls hs2 hP hS hl
    have hD : va_D A (mW cI cL cZ ad to T_2_1 mt rd un kp rw se) := mW_D hD
    refine lv_iload_n hx hb dX8_rowFine_24 rfl (lv_at hl 2 rfl) ?_
    refine lv_istore_n (lv' := [(3, .int aa), (0, .ref (ad 0)), (1, .int (nI nn)), (2, .int aa)]) hx hb dX8_rowFine_25 rfl hl (by decide) rfl (fun ls hl => ?_)
    refine lv_iconst (v := nI 1) hx hb dX8_rowFine_26 rfl ?_
    refine lv_istore (lv' := [(4, .int (nI 1)), (3, .int aa), (0, .ref (ad 0)), (1, .int (nI nn)), (2, .int aa)]) hx hb dX8_rowFine_27 hl (by decide) rfl (fun ls hl => ?_)
    refine lv_iconst (v := nI 0) hx hb dX8_rowFine_29 rfl ?_
    refine lv_istore (lv' := [(5, .int (nI 0)), (4, .int (nI 1)), (3, .int aa), (0, .ref (ad 0)), (1, .int (nI nn)), (2, .int aa)]) hx hb dX8_rowFine_30 hl (by decide) rfl (fun ls hl => ?_)
    obtain ⟨T_32_2, hT_32_2⟩ : ∃ z, z = (L_X8_rowFine_32 to rw nn 0 (nI 1) aa T_2_1) := ⟨_, rfl⟩
    have hexit_32 : ∀ (H : Heap) (locs : List Loc) (ls : Array Slot), (∀ j, j < 60 → (T_32_2.2.2 j).toNatClampNeg < 6) → va_P D vwCl (mW cI cL cZ ad to T_32_2.2.2 mt rd un kp rw se) H → va_S A s.heap H locs → lv_has ls 7 [(4, .int T_32_2.1), (3, .int T_32_2.2.1), (0, .ref (ad 0)), (1, .int (nI nn)), (2, .int aa)] → W p l e (headSpec wsX8_rowFine rm_X8_rowFine).room s m ([.ref (ad 0), .int (nI nn), .int aa] : List Value).toArray below meth c H locs 0 0 Q (F0 m 107 ls []) := by
      intro H locs ls hs3 hP hS hl
      have hD : va_D A (mW cI cL cZ ad to T_32_2.2.2 mt rd un kp rw se) := mW_D hD
      refine lv_iconst (v := nI 0) hx hb dX8_rowFine_107 rfl ?_
      refine lv_istore (lv' := [(5, .int (nI 0)), (4, .int T_32_2.1), (3, .int T_32_2.2.1), (0, .ref (ad 0)), (1, .int (nI nn)), (2, .int aa)]) hx hb dX8_rowFine_108 hl (by decide) rfl (fun ls hl => ?_)
      refine lv_iconst (v := nI 0) hx hb dX8_rowFine_110 rfl ?_
      refine lv_istore (lv' := [(6, .int (nI 0)), (5, .int (nI 0)), (4, .int T_32_2.1), (3, .int T_32_2.2.1), (0, .ref (ad 0)), (1, .int (nI nn)), (2, .int aa)]) hx hb dX8_rowFine_111 hl (by decide) rfl (fun ls hl => ?_)
      obtain ⟨T_113_3, hT_113_3⟩ : ∃ z, z = (L_X8_rowFine_113 to rw T_32_2 nn 0 (nI 0)) := ⟨_, rfl⟩
      have hexit_113 : ∀ (H : Heap) (locs : List Loc) (ls : Array Slot), va_P D vwCl (mW cI cL cZ ad to T_32_2.2.2 mt rd un kp rw se) H → va_S A s.heap H locs → lv_has ls 7 [(5, .int T_113_3), (4, .int T_32_2.1), (3, .int T_32_2.2.1), (0, .ref (ad 0)), (1, .int (nI nn)), (2, .int aa)] → W p l e (headSpec wsX8_rowFine rm_X8_rowFine).room s m ([.ref (ad 0), .int (nI nn), .int aa] : List Value).toArray below meth c H locs 0 0 Q (F0 m 141 ls []) := by
        intro H locs ls hP hS hl
        have hD : va_D A (mW cI cL cZ ad to T_32_2.2.2 mt rd un kp rw se) := mW_D hD
        refine lv_iload hx hb dX8_rowFine_141 (lv_at hl 1 rfl) ?_
        refine mv_phi (v := (if T_32_2.1 = 0 then (-1 : Int32) else T_113_3)) (pcj := 152) (ls := ls) (rest' := []) ?_ (fun J_10 => ?_)
        · subst hQe
          have hf : (f_X8_rowFine to st rw nn aa) = ((if T_32_2.1 = 0 then (-1 : Int32) else T_113_3), T_32_2.2.2) := by subst hT_113_3; subst hT_32_2; subst hT_2_1; rw [f_X8_rowFine]
          exact W.iret (v := (if T_32_2.1 = 0 then (-1 : Int32) else T_113_3)) hx hb hr (fun t ht hW => ⟨⟨(if T_32_2.1 = 0 then (-1 : Int32) else T_113_3), T_32_2.2.2, rfl, ⟨(congrArg Prod.fst hf).symm, (congrArg Prod.snd hf).symm⟩, va_Pt ht hP⟩, hS.F ht⟩) hS.2.2 dX8_rowFine_152
        · refine lv_if_eq (tgt := 151) hx hb dX8_rowFine_143 (by decide) (fun c_11 => ?_) (fun c_11 => ?_)
          · refine lv_iconst (v := (-1)) hx hb dX8_rowFine_151 rfl ?_
            exact J_10 _ (by rw [if_pos c_11])
          · refine lv_iload hx hb dX8_rowFine_146 (lv_at hl 0 rfl) ?_
            refine lv_goto (tgt := 152) hx hb dX8_rowFine_148 (by decide) ?_
            exact J_10 _ (by rw [if_neg c_11])
      have loop_113 : ∀ (n_113 : Nat) (k_113 : Nat) (x5_113 : Int32), (k_113 + n_113 = nn) → L_X8_rowFine_113 to rw T_32_2 n_113 k_113 x5_113 = T_113_3 → ∀ (H : Heap) (locs : List Loc) (ls : Array Slot), va_P D vwCl (mW cI cL cZ ad to T_32_2.2.2 mt rd un kp rw se) H → va_S A s.heap H locs → lv_has ls 7 [(6, .int (nI k_113)), (5, .int x5_113), (4, .int T_32_2.1), (3, .int T_32_2.2.1), (0, .ref (ad 0)), (1, .int (nI nn)), (2, .int aa)] → W p l e (headSpec wsX8_rowFine rm_X8_rowFine).room s m ([.ref (ad 0), .int (nI nn), .int aa] : List Value).toArray below meth c H locs 0 0 Q (F0 m 113 ls []) := by
        intro n_113
        induction n_113 with
        | zero =>
          intro k_113 x5_113 hk_113 hL_113 H locs ls hP hS hl
          have hD : va_D A (mW cI cL cZ ad to T_32_2.2.2 mt rd un kp rw se) := mW_D hD
          refine lv_iload hx hb dX8_rowFine_113 (lv_at hl 0 rfl) ?_
          refine lv_iload_n hx hb dX8_rowFine_115 rfl (lv_at hl 5 rfl) ?_
          refine mv_icmp_ge (tgt := 141) hx hb dX8_rowFine_116 (by decide) (by omega) (by omega) (fun c_9 => ?_) (fun c_9 => (by omega : False).elim)
          have e9 : T_113_3 = x5_113 := by rw [← hL_113, L_X8_rowFine_113]
          have hq := hexit_113
          rw [e9] at hq
          exact hq _ _ ls  hP hS (lv_sub hl [1, 2, 3, 4, 5, 6] rfl)
        | succ n_113 ih_113 =>
          intro k_113 x5_113 hk_113 hL_113 H locs ls hP hS hl
          have hD : va_D A (mW cI cL cZ ad to T_32_2.2.2 mt rd un kp rw se) := mW_D hD
          refine lv_iload hx hb dX8_rowFine_113 (lv_at hl 0 rfl) ?_
          refine lv_iload_n hx hb dX8_rowFine_115 rfl (lv_at hl 5 rfl) ?_
          refine mv_icmp_ge (tgt := 141) hx hb dX8_rowFine_116 (by decide) (by omega) (by omega) (fun c_8 => (by omega : False).elim) (fun c_8 => ?_)
          refine lv_iload hx hb dX8_rowFine_119 (lv_at hl 1 rfl) ?_
          refine lv_aload_n hx hb dX8_rowFine_121 rfl (lv_at hl 4 rfl) ?_
          refine lv_aload_n hx hb dX8_rowFine_122 rfl (lv_at hl 4 rfl) ?_
          refine va_get (D := D) (ci := 8) (v := .ref (ad 8)) (C := RX8) (T := TX8) (N := 18) hx hb hts (by decide +kernel) hown hK hP 0 rfl rfl 14 (by decide) (hts (.fieldLink RX8 32 "SummitTimeModel" "row" "[I") (by decide +kernel)) (fun _ h9 => h9) rfl dX8_rowFine_123 ?_
          refine lv_iload hx hb dX8_rowFine_126 (lv_at hl 0 rfl) ?_
          refine mv_iald (f := rw.1) hx hb hK hP 8 0 rfl rfl (by omega) (by decide) dX8_rowFine_128 ?_
          refine mv_top (y := nI ((rw.1 k_113).toNatClampNeg)) (hrw k_113 (by omega)).1 ?_
          refine vp_callSi (va_Run.run (va_runV (As := [.int (nI ((rw.1 k_113).toNatClampNeg))]) (rest := [.int x5_113]) ⟨hx, hb, hml, hown, hts⟩ (c_X8_fineOf l D cI cL cZ ad A to T_32_2.2.2 mt rd un kp rw se ((rw.1 k_113).toNatClampNeg) (hrw k_113 (by omega)).2 hs3) (cwV 1 hts gX8_rowFine_X8_fineOf rfl rfl rfl (by decide +kernel) ⟨Nat.le_of_ble_eq_true rfl, Nat.le_of_ble_eq_true rfl⟩) ⟨sR_fb, va_recv hK hP (ci := 8) (q0 := 0) rfl rfl, sR_at hP hK hD hE⟩ rfl rfl hl.1 rfl (lv_room (Nat.le_of_ble_eq_true rfl)) dX8_rowFine_129 ⟨Nat.zero_le _, Nat.zero_le _⟩)) (fun r hr => ?_)
          subst hr
          refine lv_iadd hx hb dX8_rowFine_132 ?_
          refine lv_istore (lv' := [(5, .int (x5_113 + (f_X8_fineOf to T_32_2.2.2 ((rw.1 k_113).toNatClampNeg)))), (6, .int (nI k_113)), (4, .int T_32_2.1), (3, .int T_32_2.2.1), (0, .ref (ad 0)), (1, .int (nI nn)), (2, .int aa)]) hx hb dX8_rowFine_133 hl (by decide) rfl (fun ls hl => ?_)
          refine mv_iinc (y := k_113 + 1) (lv' := [(6, .int (nI (k_113 + 1))), (5, .int (x5_113 + (f_X8_fineOf to T_32_2.2.2 ((rw.1 k_113).toNatClampNeg)))), (4, .int T_32_2.1), (3, .int T_32_2.2.1), (0, .ref (ad 0)), (1, .int (nI nn)), (2, .int aa)]) hx hb dX8_rowFine_135 hl (k := 1) rfl (nI_p1 _) (by decide) rfl (fun ls hl => ?_)
          refine lv_goto (tgt := 113) hx hb dX8_rowFine_138 (by decide) ?_
          exact ih_113 (k_113 + 1) (x5_113 + (f_X8_fineOf to T_32_2.2.2 ((rw.1 k_113).toNatClampNeg))) (by omega) (by have e9 := hL_113; rw [L_X8_rowFine_113] at e9; exact e9) _ _ ls hP hS (lv_sub hl [0, 1, 2, 3, 4, 5, 6] rfl)
      exact loop_113 nn 0 (nI 0) (by omega) hT_113_3.symm _ _ ls hP hS (lv_sub hl [0, 1, 2, 3, 4, 5, 6] rfl)
    have loop_32 : ∀ (n_32 : Nat) (k_32 : Nat) (x4_32 : Int32) (x3_32 : Int32) (wst0_32 : Nat → Int32), (k_32 + n_32 = nn) → (∀ j, j < 60 → (wst0_32 j).toNatClampNeg < 6) → L_X8_rowFine_32 to rw n_32 k_32 x4_32 x3_32 wst0_32 = T_32_2 → ∀ (H : Heap) (locs : List Loc) (ls : Array Slot), va_P D vwCl (mW cI cL cZ ad to wst0_32 mt rd un kp rw se) H → va_S A s.heap H locs → lv_has ls 7 [(5, .int (nI k_32)), (4, .int x4_32), (3, .int x3_32), (0, .ref (ad 0)), (1, .int (nI nn)), (2, .int aa)] → W p l e (headSpec wsX8_rowFine rm_X8_rowFine).room s m ([.ref (ad 0), .int (nI nn), .int aa] : List Value).toArray below meth c H locs 0 0 Q (F0 m 32 ls []) := by
      intro n_32
      induction n_32 with
      | zero =>
        intro k_32 x4_32 x3_32 wst0_32 hk_32 hsv hL_32 H locs ls hP hS hl
        have hD : va_D A (mW cI cL cZ ad to wst0_32 mt rd un kp rw se) := mW_D hD
        refine lv_iload hx hb dX8_rowFine_32 (lv_at hl 0 rfl) ?_
        refine lv_iload_n hx hb dX8_rowFine_34 rfl (lv_at hl 4 rfl) ?_
        refine mv_icmp_ge (tgt := 107) hx hb dX8_rowFine_35 (by decide) (by omega) (by omega) (fun c_7 => ?_) (fun c_7 => (by omega : False).elim)
        have e9 : T_32_2 = (x4_32, x3_32, wst0_32) := by rw [← hL_32, L_X8_rowFine_32]
        have hq := hexit_32
        rw [e9] at hq
        exact hq _ _ ls hsv hP hS (lv_sub hl [1, 2, 3, 4, 5] rfl)
      | succ n_32 ih_32 =>
        intro k_32 x4_32 x3_32 wst0_32 hk_32 hsv hL_32 H locs ls hP hS hl
        have hD : va_D A (mW cI cL cZ ad to wst0_32 mt rd un kp rw se) := mW_D hD
        refine lv_iload hx hb dX8_rowFine_32 (lv_at hl 0 rfl) ?_
        refine lv_iload_n hx hb dX8_rowFine_34 rfl (lv_at hl 4 rfl) ?_
        refine mv_icmp_ge (tgt := 107) hx hb dX8_rowFine_35 (by decide) (by omega) (by omega) (fun c_3 => (by omega : False).elim) (fun c_3 => ?_)
        have hq := hrw k_32 (by omega)
        refine lv_iload hx hb dX8_rowFine_38 (lv_at hl 1 rfl) ?_
        refine mv_phi (v := (if x4_32 = 0 then nI 0 else (if nI 60 ≤ x3_32 then nI 0 else nI 1))) (pcj := 54) (ls := ls) (rest' := []) ?_ (fun J_4 => ?_)
        · refine lv_istore (lv' := [(4, .int (if x4_32 = 0 then nI 0 else (if nI 60 ≤ x3_32 then nI 0 else nI 1))), (5, .int (nI k_32)), (3, .int x3_32), (0, .ref (ad 0)), (1, .int (nI nn)), (2, .int aa)]) hx hb dX8_rowFine_54 hl (by decide) rfl (fun ls hl => ?_)
          refine lv_aload_n hx hb dX8_rowFine_56 rfl (lv_at hl 3 rfl) ?_
          refine va_get (D := D) (ci := 8) (v := .ref (ad 2)) (C := RX8) (T := TX8) (N := 18) hx hb hts (by decide +kernel) hown hK hP 0 rfl rfl 1 (by decide) (hts (.fieldLink RX8 13 "SummitTimeModel" "st" "[I") (by decide +kernel)) (fun _ h9 => h9) rfl dX8_rowFine_57 ?_
          refine lv_bipush (v := nI 60) hx hb dX8_rowFine_60 rfl ?_
          refine lv_aload_n hx hb dX8_rowFine_62 rfl (lv_at hl 3 rfl) ?_
          refine va_get (D := D) (ci := 8) (v := .ref (ad 8)) (C := RX8) (T := TX8) (N := 18) hx hb hts (by decide +kernel) hown hK hP 0 rfl rfl 14 (by decide) (hts (.fieldLink RX8 32 "SummitTimeModel" "row" "[I") (by decide +kernel)) (fun _ h9 => h9) rfl dX8_rowFine_63 ?_
          refine lv_iload hx hb dX8_rowFine_66 (lv_at hl 1 rfl) ?_
          refine mv_iald (f := rw.1) hx hb hK hP 8 0 rfl rfl (by omega) (by decide) dX8_rowFine_68 ?_
          refine mv_top (y := nI ((rw.1 k_32).toNatClampNeg)) (hrw k_32 (by omega)).1 ?_
          refine mv_iadd hx hb dX8_rowFine_69 ?_
          refine lv_iload_n hx hb dX8_rowFine_70 rfl (lv_at hl 2 rfl) ?_
          refine mv_iast (f := wst0_32) hx hb hK hP hD hS 2 0 rfl rfl (by omega) (by decide) dX8_rowFine_71 (fun H locs hP hD hS => ?_)
          have hP : va_P D vwCl (mW cI cL cZ ad to (upd wst0_32 (60 + ((rw.1 k_32).toNatClampNeg)) x3_32) mt rd un kp rw se) H := hP
          have hD : va_D A (mW cI cL cZ ad to (upd wst0_32 (60 + ((rw.1 k_32).toNatClampNeg)) x3_32) mt rd un kp rw se) := hD
          refine lv_aload_n hx hb dX8_rowFine_72 rfl (lv_at hl 3 rfl) ?_
          refine lv_aload_n hx hb dX8_rowFine_73 rfl (lv_at hl 3 rfl) ?_
          refine va_get (D := D) (ci := 8) (v := .ref (ad 8)) (C := RX8) (T := TX8) (N := 18) hx hb hts (by decide +kernel) hown hK hP 0 rfl rfl 14 (by decide) (hts (.fieldLink RX8 32 "SummitTimeModel" "row" "[I") (by decide +kernel)) (fun _ h9 => h9) rfl dX8_rowFine_74 ?_
          refine lv_iload hx hb dX8_rowFine_77 (lv_at hl 1 rfl) ?_
          refine mv_iald (f := rw.1) hx hb hK hP 8 0 rfl rfl (by omega) (by decide) dX8_rowFine_79 ?_
          refine mv_top (y := nI ((rw.1 k_32).toNatClampNeg)) (hrw k_32 (by omega)).1 ?_
          refine lv_iload_n hx hb dX8_rowFine_80 rfl (lv_at hl 2 rfl) ?_
          refine vp_callSi (va_Run.run (va_runV (As := [.int (nI ((rw.1 k_32).toNatClampNeg)), .int x3_32]) (rest := []) ⟨hx, hb, hml, hown, hts⟩ (c_X8_thereBy l D cI cL cZ ad A to (upd wst0_32 (60 + ((rw.1 k_32).toNatClampNeg)) x3_32) mt rd un kp rw se ((rw.1 k_32).toNatClampNeg) x3_32 (by first | assumption | omega)) (cwV 2 hts gX8_rowFine_X8_thereBy rfl rfl rfl (by decide +kernel) ⟨Nat.le_of_ble_eq_true rfl, Nat.le_of_ble_eq_true rfl⟩) ⟨sR_fb, va_recv hK hP (ci := 8) (q0 := 0) rfl rfl, sR_at hP hK hD hE⟩ rfl rfl hl.1 rfl (lv_room (Nat.le_of_ble_eq_true rfl)) dX8_rowFine_81 ⟨Nat.zero_le _, Nat.zero_le _⟩)) (fun r hr => ?_)
          subst hr
          refine lv_aload_n hx hb dX8_rowFine_84 rfl (lv_at hl 3 rfl) ?_
          refine va_get (D := D) (ci := 8) (v := .ref (ad 1)) (C := RX8) (T := TX8) (N := 18) hx hb hts (by decide +kernel) hown hK hP 0 rfl rfl 0 (by decide) (hts (.fieldLink RX8 7 "SummitTimeModel" "told" "[I") (by decide +kernel)) (fun _ h9 => h9) rfl dX8_rowFine_85 ?_
          refine lv_bipush (v := nI 13) hx hb dX8_rowFine_88 rfl ?_
          refine lv_aload_n hx hb dX8_rowFine_90 rfl (lv_at hl 3 rfl) ?_
          refine va_get (D := D) (ci := 8) (v := .ref (ad 8)) (C := RX8) (T := TX8) (N := 18) hx hb hts (by decide +kernel) hown hK hP 0 rfl rfl 14 (by decide) (hts (.fieldLink RX8 32 "SummitTimeModel" "row" "[I") (by decide +kernel)) (fun _ h9 => h9) rfl dX8_rowFine_91 ?_
          refine lv_iload hx hb dX8_rowFine_94 (lv_at hl 1 rfl) ?_
          refine mv_iald (f := rw.1) hx hb hK hP 8 0 rfl rfl (by omega) (by decide) dX8_rowFine_96 ?_
          refine mv_top (y := nI ((rw.1 k_32).toNatClampNeg)) (hrw k_32 (by omega)).1 ?_
          refine mv_iadd hx hb dX8_rowFine_97 ?_
          refine mv_iald (f := to) hx hb hK hP 1 0 rfl rfl (by omega) (by decide) dX8_rowFine_98 ?_
          refine lv_iadd hx hb dX8_rowFine_99 ?_
          refine lv_istore_n (lv' := [(3, .int ((f_X8_thereBy to (upd wst0_32 (60 + ((rw.1 k_32).toNatClampNeg)) x3_32) ((rw.1 k_32).toNatClampNeg) x3_32) + (to (13 + ((rw.1 k_32).toNatClampNeg))))), (4, .int (if x4_32 = 0 then nI 0 else (if nI 60 ≤ x3_32 then nI 0 else nI 1))), (5, .int (nI k_32)), (0, .ref (ad 0)), (1, .int (nI nn)), (2, .int aa)]) hx hb dX8_rowFine_100 rfl hl (by decide) rfl (fun ls hl => ?_)
          refine mv_iinc (y := k_32 + 1) (lv' := [(5, .int (nI (k_32 + 1))), (3, .int ((f_X8_thereBy to (upd wst0_32 (60 + ((rw.1 k_32).toNatClampNeg)) x3_32) ((rw.1 k_32).toNatClampNeg) x3_32) + (to (13 + ((rw.1 k_32).toNatClampNeg))))), (4, .int (if x4_32 = 0 then nI 0 else (if nI 60 ≤ x3_32 then nI 0 else nI 1))), (0, .ref (ad 0)), (1, .int (nI nn)), (2, .int aa)]) hx hb dX8_rowFine_101 hl (k := 2) rfl (nI_p1 _) (by decide) rfl (fun ls hl => ?_)
          refine lv_goto (tgt := 32) hx hb dX8_rowFine_104 (by decide) ?_
          exact ih_32 (k_32 + 1) (if x4_32 = 0 then nI 0 else (if nI 60 ≤ x3_32 then nI 0 else nI 1)) ((f_X8_thereBy to (upd wst0_32 (60 + ((rw.1 k_32).toNatClampNeg)) x3_32) ((rw.1 k_32).toNatClampNeg) x3_32) + (to (13 + ((rw.1 k_32).toNatClampNeg)))) (upd wst0_32 (60 + ((rw.1 k_32).toNatClampNeg)) x3_32) (by omega) (so_upd hsv (by omega)) (by have e9 := hL_32; rw [L_X8_rowFine_32] at e9; exact e9) _ _ ls hP hS (lv_sub hl [0, 2, 1, 3, 4, 5] rfl)
        · refine lv_if_eq (tgt := 53) hx hb dX8_rowFine_40 (by decide) (fun c_5 => ?_) (fun c_5 => ?_)
          · refine lv_iconst (v := nI 0) hx hb dX8_rowFine_53 rfl ?_
            exact J_4 _ (by rw [if_pos c_5])
          · refine lv_iload_n hx hb dX8_rowFine_43 rfl (lv_at hl 2 rfl) ?_
            refine lv_bipush (v := nI 60) hx hb dX8_rowFine_44 rfl ?_
            refine lv_icmp_ge (tgt := 53) hx hb dX8_rowFine_46 (by decide) (fun c_6 => ?_) (fun c_6 => ?_)
            · refine lv_iconst (v := nI 0) hx hb dX8_rowFine_53 rfl ?_
              exact J_4 _ (by rw [if_neg c_5, if_pos c_6])
            · refine lv_iconst (v := nI 1) hx hb dX8_rowFine_49 rfl ?_
              refine lv_goto (tgt := 54) hx hb dX8_rowFine_50 (by decide) ?_
              exact J_4 _ (by rw [if_neg c_5, if_neg c_6])
    exact loop_32 nn 0 (nI 1) aa T_2_1 (by omega) hs2 hT_32_2.symm _ _ ls hP hS (lv_sub hl [0, 1, 2, 3, 4, 5] rfl)
  have loop_2 : ∀ (n_2 : Nat) (k_2 : Nat) (wst0_2 : Nat → Int32), (k_2 + n_2 = 6) → (∀ j, j < 60 → (wst0_2 j).toNatClampNeg < 6) → L_X8_rowFine_2 n_2 k_2 wst0_2 = T_2_1 → ∀ (H : Heap) (locs : List Loc) (ls : Array Slot), va_P D vwCl (mW cI cL cZ ad to wst0_2 mt rd un kp rw se) H → va_S A s.heap H locs → lv_has ls 7 [(3, .int (nI k_2)), (0, .ref (ad 0)), (1, .int (nI nn)), (2, .int aa)] → W p l e (headSpec wsX8_rowFine rm_X8_rowFine).room s m ([.ref (ad 0), .int (nI nn), .int aa] : List Value).toArray below meth c H locs 0 0 Q (F0 m 2 ls []) := by
    intro n_2
    induction n_2 with
    | zero =>
      intro k_2 wst0_2 hk_2 hsw hL_2 H locs ls hP hS hl
      have hD : va_D A (mW cI cL cZ ad to wst0_2 mt rd un kp rw se) := mW_D hD
      refine lv_iload_n hx hb dX8_rowFine_2 rfl (lv_at hl 0 rfl) ?_
      refine lv_bipush (v := nI 6) hx hb dX8_rowFine_3 rfl ?_
      refine mv_icmp_ge (tgt := 24) hx hb dX8_rowFine_5 (by decide) (by omega) (by decide) (fun c_2 => ?_) (fun c_2 => (by omega : False).elim)
      have e9 : T_2_1 = wst0_2 := by rw [← hL_2, L_X8_rowFine_2]
      have hq := hexit_2
      rw [e9] at hq
      exact hq _ _ ls hsw hP hS (lv_sub hl [1, 2, 3] rfl)
    | succ n_2 ih_2 =>
      intro k_2 wst0_2 hk_2 hsw hL_2 H locs ls hP hS hl
      have hD : va_D A (mW cI cL cZ ad to wst0_2 mt rd un kp rw se) := mW_D hD
      refine lv_iload_n hx hb dX8_rowFine_2 rfl (lv_at hl 0 rfl) ?_
      refine lv_bipush (v := nI 6) hx hb dX8_rowFine_3 rfl ?_
      refine mv_icmp_ge (tgt := 24) hx hb dX8_rowFine_5 (by decide) (by omega) (by decide) (fun c_1 => (by omega : False).elim) (fun c_1 => ?_)
      refine lv_aload_n hx hb dX8_rowFine_8 rfl (lv_at hl 1 rfl) ?_
      refine va_get (D := D) (ci := 8) (v := .ref (ad 2)) (C := RX8) (T := TX8) (N := 18) hx hb hts (by decide +kernel) hown hK hP 0 rfl rfl 1 (by decide) (hts (.fieldLink RX8 13 "SummitTimeModel" "st" "[I") (by decide +kernel)) (fun _ h9 => h9) rfl dX8_rowFine_9 ?_
      refine lv_bipush (v := nI 60) hx hb dX8_rowFine_12 rfl ?_
      refine lv_iload_n hx hb dX8_rowFine_14 rfl (lv_at hl 0 rfl) ?_
      refine mv_iadd hx hb dX8_rowFine_15 ?_
      refine lv_iconst (v := (-1)) hx hb dX8_rowFine_16 rfl ?_
      refine mv_iast (f := wst0_2) hx hb hK hP hD hS 2 0 rfl rfl (by omega) (by decide) dX8_rowFine_17 (fun H locs hP hD hS => ?_)
      have hP : va_P D vwCl (mW cI cL cZ ad to (upd wst0_2 (60 + k_2) (-1 : Int32)) mt rd un kp rw se) H := hP
      have hD : va_D A (mW cI cL cZ ad to (upd wst0_2 (60 + k_2) (-1 : Int32)) mt rd un kp rw se) := hD
      refine mv_iinc (y := k_2 + 1) (lv' := [(3, .int (nI (k_2 + 1))), (0, .ref (ad 0)), (1, .int (nI nn)), (2, .int aa)]) hx hb dX8_rowFine_18 hl (k := 0) rfl (nI_p1 _) (by decide) rfl (fun ls hl => ?_)
      refine lv_goto (tgt := 2) hx hb dX8_rowFine_21 (by decide) ?_
      exact ih_2 (k_2 + 1) (upd wst0_2 (60 + k_2) (-1 : Int32)) (by omega) (so_upd hsw (by omega)) (by have e9 := hL_2; rw [L_X8_rowFine_2] at e9; exact e9) _ _ ls hP hS (lv_sub hl [0, 1, 2, 3] rfl)
  exact loop_2 6 0 st (by omega) hso hT_2_1.symm _ _ ls hP hS (lv_sub hl [0, 1, 2, 3] rfl)
def mOnes (s : Nat) : Nat := (f_X8_ones s).toNatClampNeg
theorem mOnes_ok : ∀ s, s < 64 → (f_X8_ones s = nI (mOnes s) ∧ mOnes s ≤ 6) := by decide +kernel
theorem ro_upd {r : Nat → Int32} {k j : Nat} (h : ∀ j, j < 6 → (r j = nI (r j).toNatClampNeg ∧ (r j).toNatClampNeg < 6)) (hj : j < 6) : ∀ i, i < 6 → (upd r k (nI j) i = nI (upd r k (nI j) i).toNatClampNeg ∧ (upd r k (nI j) i).toNatClampNeg < 6) := fun i hi => by
  by_cases e : i = k
  · subst e
    rw [pk_us, nI_clamp (by omega)]
    exact ⟨rfl, hj⟩
  · rw [pk_un e]
    exact h i hi
theorem L_isOrder_ro {nn : Nat} : ∀ (n x4 : Nat) (x5 : Int32) (r : Nat → Int32), n ≤ nn → (∀ j, j < 6 → (r j = nI (r j).toNatClampNeg ∧ (r j).toNatClampNeg < 6)) → ∀ j, j < 6 → ((L_X8_isOrder_11 n x5 x4 r).2.2 j = nI ((L_X8_isOrder_11 n x5 x4 r).2.2 j).toNatClampNeg ∧ ((L_X8_isOrder_11 n x5 x4 r).2.2 j).toNatClampNeg < 6)
  | 0, _, _, _, _, h => h
  | n + 1, x4, x5, r, hn, h => by
    rw [L_X8_isOrder_11]
    exact L_isOrder_ro (nn := nn) n _ _ _ (by omega) (ro_upd h (Nat.mod_lt _ (by decide)))
theorem ro_isOrder {rw : MKp} {r nn : Nat} {set : Int32} (h : ∀ j, j < 6 → (rw.1 j = nI (rw.1 j).toNatClampNeg ∧ (rw.1 j).toNatClampNeg < 6)) : ∀ j, j < 6 → ((f_X8_isOrder rw r set nn).2.1 j = nI ((f_X8_isOrder rw r set nn).2.1 j).toNatClampNeg ∧ ((f_X8_isOrder rw r set nn).2.1 j).toNatClampNeg < 6) := L_isOrder_ro (nn := nn) nn _ _ _ (Nat.le_refl _) h
theorem so_rowFine {to st : Nat → Int32} {rw : MKp} {nn : Nat} {aa : Int32} (h : ∀ j, j < 60 → (st j).toNatClampNeg < 6) : ∀ j, j < 60 → ((f_X8_rowFine to st rw nn aa).2 j).toNatClampNeg < 6 := by
  have h1 : ∀ (n k : Nat) (w : Nat → Int32), (∀ j, j < 60 → (w j).toNatClampNeg < 6) → ∀ j, j < 60 → ((L_X8_rowFine_2 n k w) j).toNatClampNeg < 6 := by
    intro n
    induction n with
    | zero => intro k w h; exact h
    | succ n ih => intro k w h; rw [L_X8_rowFine_2]; exact ih _ _ (so_upd h (by omega))
  have h2 : ∀ (n k : Nat) (x4 x3 : Int32) (w : Nat → Int32), (∀ j, j < 60 → (w j).toNatClampNeg < 6) → ∀ j, j < 60 → ((L_X8_rowFine_32 to rw n k x4 x3 w).2.2 j).toNatClampNeg < 6 := by
    intro n
    induction n with
    | zero => intro k x4 x3 w h; exact h
    | succ n ih => intro k x4 x3 w h; rw [L_X8_rowFine_32]; exact ih _ _ _ _ (so_upd h (by omega))
  exact h2 _ _ _ _ _ (h1 _ _ _ h)
theorem aP_and {to : Nat → Int32} {set : Int32} (hm6 : mN to ≤ 6) (c : ¬ f_X8_arePeople to set = 0) : 0 ≤ set.toInt ∧ set.toInt < 64 := by
  have h1 := in_and c
  rw [Int32.toInt_toInt64] at h1
  have h3 : ∀ p, p ≤ 6 → (nI 1 <<< (nI p &&& 31) - nI 1).toInt ≤ 63 := by decide +kernel
  have h4 := h3 _ hm6
  omega
theorem aP_nat {to : Nat → Int32} {set : Int32} (c : ¬ f_X8_arePeople to set = 0) : set = nI set.toNatClampNeg := in_nat c
theorem aP_lt {to : Nat → Int32} {set : Int32} (hm6 : mN to ≤ 6) (c : ¬ f_X8_arePeople to set = 0) : set.toNatClampNeg < 64 := by
  have h1 := aP_and hm6 c
  have h2 := cl_int set
  omega
def L_X8_order_41 (st : (Nat → Int32)) : Nat → Nat → (Nat → Int32) → (Nat → Int32)
  | 0, _, wrw1_41 => wrw1_41
  | n_41 + 1, k_41, wrw1_41 => (L_X8_order_41 st n_41 (k_41 + 1) (upd wrw1_41 k_41 (st (60 + k_41))))
def L_X8_order_83  : Nat → Nat → Nat → Nat
  | 0, _, x5_83 => x5_83
  | n_83 + 1, k_83, x5_83 => (L_X8_order_83 n_83 (k_83 + 1) (x5_83 * 6))
def L_X8_order_112 (to : (Nat → Int32)) (set : Int32) (aa : Int32) : Nat → Nat → Int32 → Int32 → (Nat → Int32) → (Nat → Int32) → (Nat → Int32) → Int32 × Int32 × (Nat → Int32) × (Nat → Int32) × (Nat → Int32)
  | 0, _, x7_112, x6_112, wrw0_112, wrw1_112, wst0_112 => (x7_112, x6_112, wrw0_112, wrw1_112, wst0_112)
  | n_112 + 1, k_112, x7_112, x6_112, wrw0_112, wrw1_112, wst0_112 => (if (f_X8_isOrder (wrw0_112, wrw1_112) k_112 (nI set.toNatClampNeg) (mOnes set.toNatClampNeg)).1 = 0 then (L_X8_order_112 to set aa n_112 (k_112 + 1) x7_112 x6_112 (((f_X8_isOrder (wrw0_112, wrw1_112) k_112 (nI set.toNatClampNeg) (mOnes set.toNatClampNeg)).2).1) (((f_X8_isOrder (wrw0_112, wrw1_112) k_112 (nI set.toNatClampNeg) (mOnes set.toNatClampNeg)).2).2) wst0_112) else (if (f_X8_rowFine to wst0_112 ((f_X8_isOrder (wrw0_112, wrw1_112) k_112 (nI set.toNatClampNeg) (mOnes set.toNatClampNeg)).2) (mOnes set.toNatClampNeg) aa).1 < 0 then (L_X8_order_112 to set aa n_112 (k_112 + 1) x7_112 x6_112 (((f_X8_isOrder (wrw0_112, wrw1_112) k_112 (nI set.toNatClampNeg) (mOnes set.toNatClampNeg)).2).1) (((f_X8_isOrder (wrw0_112, wrw1_112) k_112 (nI set.toNatClampNeg) (mOnes set.toNatClampNeg)).2).2) ((f_X8_rowFine to wst0_112 ((f_X8_isOrder (wrw0_112, wrw1_112) k_112 (nI set.toNatClampNeg) (mOnes set.toNatClampNeg)).2) (mOnes set.toNatClampNeg) aa).2)) else (if x6_112 < 0 then (L_X8_order_112 to set aa n_112 (k_112 + 1) ((f_X8_rowFine to wst0_112 ((f_X8_isOrder (wrw0_112, wrw1_112) k_112 (nI set.toNatClampNeg) (mOnes set.toNatClampNeg)).2) (mOnes set.toNatClampNeg) aa).1) (nI k_112) (((f_X8_isOrder (wrw0_112, wrw1_112) k_112 (nI set.toNatClampNeg) (mOnes set.toNatClampNeg)).2).1) (((f_X8_isOrder (wrw0_112, wrw1_112) k_112 (nI set.toNatClampNeg) (mOnes set.toNatClampNeg)).2).2) ((f_X8_rowFine to wst0_112 ((f_X8_isOrder (wrw0_112, wrw1_112) k_112 (nI set.toNatClampNeg) (mOnes set.toNatClampNeg)).2) (mOnes set.toNatClampNeg) aa).2)) else (if x7_112 ≤ (f_X8_rowFine to wst0_112 ((f_X8_isOrder (wrw0_112, wrw1_112) k_112 (nI set.toNatClampNeg) (mOnes set.toNatClampNeg)).2) (mOnes set.toNatClampNeg) aa).1 then (L_X8_order_112 to set aa n_112 (k_112 + 1) x7_112 x6_112 (((f_X8_isOrder (wrw0_112, wrw1_112) k_112 (nI set.toNatClampNeg) (mOnes set.toNatClampNeg)).2).1) (((f_X8_isOrder (wrw0_112, wrw1_112) k_112 (nI set.toNatClampNeg) (mOnes set.toNatClampNeg)).2).2) ((f_X8_rowFine to wst0_112 ((f_X8_isOrder (wrw0_112, wrw1_112) k_112 (nI set.toNatClampNeg) (mOnes set.toNatClampNeg)).2) (mOnes set.toNatClampNeg) aa).2)) else (L_X8_order_112 to set aa n_112 (k_112 + 1) ((f_X8_rowFine to wst0_112 ((f_X8_isOrder (wrw0_112, wrw1_112) k_112 (nI set.toNatClampNeg) (mOnes set.toNatClampNeg)).2) (mOnes set.toNatClampNeg) aa).1) (nI k_112) (((f_X8_isOrder (wrw0_112, wrw1_112) k_112 (nI set.toNatClampNeg) (mOnes set.toNatClampNeg)).2).1) (((f_X8_isOrder (wrw0_112, wrw1_112) k_112 (nI set.toNatClampNeg) (mOnes set.toNatClampNeg)).2).2) ((f_X8_rowFine to wst0_112 ((f_X8_isOrder (wrw0_112, wrw1_112) k_112 (nI set.toNatClampNeg) (mOnes set.toNatClampNeg)).2) (mOnes set.toNatClampNeg) aa).2))))))
def L_X8_order_174 (T_112 : Int32 × Int32 × (Nat → Int32) × (Nat → Int32) × (Nat → Int32)) : Nat → Nat → (Nat → Int32) → (Nat → Int32)
  | 0, _, wst0_174 => wst0_174
  | n_174 + 1, k_174, wst0_174 => (L_X8_order_174 T_112 n_174 (k_174 + 1) (upd wst0_174 (60 + k_174) (T_112.2.2.2.1 k_174)))
def f_X8_order (to : (Nat → Int32)) (st : (Nat → Int32)) (rw : MKp) (set : Int32) (aa : Int32) (wh : Int32) : Int32 × (Nat → Int32) × MKp := (if (f_X8_arePeople to set) = 0 then ((-2 : Int32), st, rw) else (if (f_X8_in aa.toInt64 (0 : Int64) (59 : Int64)) = 0 then ((-3 : Int32), st, rw) else (if (f_X8_in wh.toInt64 (0 : Int64) (6 : Int64)) = 0 then ((-3 : Int32), st, rw) else (if (L_X8_order_112 to set aa (L_X8_order_83 (mOnes set.toNatClampNeg) 0 1) 0 (nI 0) (-1 : Int32) rw.1 (L_X8_order_41 st 6 0 rw.2) st).2.1 < 0 then ((-1 : Int32), (L_X8_order_174 (L_X8_order_112 to set aa (L_X8_order_83 (mOnes set.toNatClampNeg) 0 1) 0 (nI 0) (-1 : Int32) rw.1 (L_X8_order_41 st 6 0 rw.2) st) 6 0 (L_X8_order_112 to set aa (L_X8_order_83 (mOnes set.toNatClampNeg) 0 1) 0 (nI 0) (-1 : Int32) rw.1 (L_X8_order_41 st 6 0 rw.2) st).2.2.2.2), ((L_X8_order_112 to set aa (L_X8_order_83 (mOnes set.toNatClampNeg) 0 1) 0 (nI 0) (-1 : Int32) rw.1 (L_X8_order_41 st 6 0 rw.2) st).2.2.1, (L_X8_order_112 to set aa (L_X8_order_83 (mOnes set.toNatClampNeg) 0 1) 0 (nI 0) (-1 : Int32) rw.1 (L_X8_order_41 st 6 0 rw.2) st).2.2.2.1)) else (if wh.toNatClampNeg ≤ (mOnes set.toNatClampNeg) then ((if wh.toNatClampNeg = 0 then (L_X8_order_112 to set aa (L_X8_order_83 (mOnes set.toNatClampNeg) 0 1) 0 (nI 0) (-1 : Int32) rw.1 (L_X8_order_41 st 6 0 rw.2) st).1 else ((((f_X8_isOrder ((L_X8_order_112 to set aa (L_X8_order_83 (mOnes set.toNatClampNeg) 0 1) 0 (nI 0) (-1 : Int32) rw.1 (L_X8_order_41 st 6 0 rw.2) st).2.2.1, (L_X8_order_112 to set aa (L_X8_order_83 (mOnes set.toNatClampNeg) 0 1) 0 (nI 0) (-1 : Int32) rw.1 (L_X8_order_41 st 6 0 rw.2) st).2.2.2.1) (L_X8_order_112 to set aa (L_X8_order_83 (mOnes set.toNatClampNeg) 0 1) 0 (nI 0) (-1 : Int32) rw.1 (L_X8_order_41 st 6 0 rw.2) st).2.1.toNatClampNeg (nI set.toNatClampNeg) (mOnes set.toNatClampNeg)).2).1) (wh.toNatClampNeg - 1))), (L_X8_order_174 (L_X8_order_112 to set aa (L_X8_order_83 (mOnes set.toNatClampNeg) 0 1) 0 (nI 0) (-1 : Int32) rw.1 (L_X8_order_41 st 6 0 rw.2) st) 6 0 (L_X8_order_112 to set aa (L_X8_order_83 (mOnes set.toNatClampNeg) 0 1) 0 (nI 0) (-1 : Int32) rw.1 (L_X8_order_41 st 6 0 rw.2) st).2.2.2.2), ((f_X8_isOrder ((L_X8_order_112 to set aa (L_X8_order_83 (mOnes set.toNatClampNeg) 0 1) 0 (nI 0) (-1 : Int32) rw.1 (L_X8_order_41 st 6 0 rw.2) st).2.2.1, (L_X8_order_112 to set aa (L_X8_order_83 (mOnes set.toNatClampNeg) 0 1) 0 (nI 0) (-1 : Int32) rw.1 (L_X8_order_41 st 6 0 rw.2) st).2.2.2.1) (L_X8_order_112 to set aa (L_X8_order_83 (mOnes set.toNatClampNeg) 0 1) 0 (nI 0) (-1 : Int32) rw.1 (L_X8_order_41 st 6 0 rw.2) st).2.1.toNatClampNeg (nI set.toNatClampNeg) (mOnes set.toNatClampNeg)).2)) else ((-1 : Int32), (L_X8_order_174 (L_X8_order_112 to set aa (L_X8_order_83 (mOnes set.toNatClampNeg) 0 1) 0 (nI 0) (-1 : Int32) rw.1 (L_X8_order_41 st 6 0 rw.2) st) 6 0 (L_X8_order_112 to set aa (L_X8_order_83 (mOnes set.toNatClampNeg) 0 1) 0 (nI 0) (-1 : Int32) rw.1 (L_X8_order_41 st 6 0 rw.2) st).2.2.2.2), ((L_X8_order_112 to set aa (L_X8_order_83 (mOnes set.toNatClampNeg) 0 1) 0 (nI 0) (-1 : Int32) rw.1 (L_X8_order_41 st 6 0 rw.2) st).2.2.1, (L_X8_order_112 to set aa (L_X8_order_83 (mOnes set.toNatClampNeg) 0 1) 0 (nI 0) (-1 : Int32) rw.1 (L_X8_order_41 st 6 0 rw.2) st).2.2.2.1)))))))
abbrev rm_X8_order : Room := { frames := 6, cells := 0, slots := 0, locals := 139 }
set_option maxHeartbeats 4000000 in
set_option maxRecDepth 100000 in
theorem c_X8_order (l : Launch) (D : va_G) (cI cL cZ : ClassId) (ad : Nat → Nat) (A : Nat → Prop) (to : (Nat → Int32)) (st : (Nat → Int32)) (mt : MTx) (rd : (Nat → Int32)) (un : MUn) (kp : MKp) (rw : MKp) (se : MUn) (set : Int32) (aa : Int32) (wh : Int32) (hm : to 0 = nI (mN to)) (hm6 : mN to ≤ 6) (hso : ∀ j, j < 60 → (st j).toNatClampNeg < 6) (hrw : ∀ j, j < 6 → (rw.1 j = nI (rw.1 j).toNatClampNeg ∧ (rw.1 j).toNatClampNeg < 6)) : Met l yX8_order wsX8_order rm_X8_order (va_Pc [.ref (ad 0), .int set, .int aa, .int wh] (sR D cI cL cZ A (mW cI cL cZ ad to st mt rd un kp rw se))) (va_Qi (fun (r : Int32) (u : (Nat → Int32) × MKp) => r = (f_X8_order to st rw set aa wh).1 ∧ u = (f_X8_order to st rw set aa wh).2) (fun (u : (Nat → Int32) × MKp) t => va_P D vwCl (mW cI cL cZ ad to u.1 mt rd un kp u.2 se) t.heap) A) 0 0 A := by
  refine Met.ofW (cc := cX8_order) (maxL := 10) (ret := (some .int)) (by decide) rfl ?_
  intro p e s m args below meth c s₁ B hml hv
  obtain ⟨rfl, hP, hK, hD, hE⟩ := hv
  have hx := B.exec
  have hb := B.bytes
  have hr := B.returns
  have hts := atoms_spec (ws := wsX8_order) B.pre
  have hown : s.vm.findClass RX8 = some m.cls := findClass_of_methodNamed B.named
  have hlocks := B.notSynchronized
  have hS : va_S A s.heap s.heap [] := va_S.rf
  have hl := lv_entry ([.ref (ad 0), .int set, .int aa, .int wh]) (n := 10) (Nat.le_of_ble_eq_true rfl)
  rw [lg_entry_eq]
  generalize (lg_sl ([.ref (ad 0), .int set, .int aa, .int wh]) ++ List.replicate (10 - (lg_sl ([.ref (ad 0), .int set, .int aa, .int wh])).length) Slot.unset).toArray = ls at hl ⊢
  have hl : lv_has ls 10 [(0, .ref (ad 0)), (1, .int set), (2, .int aa), (3, .int wh)] := hl
  obtain ⟨Q, hQe⟩ : ∃ Q, Q = MQ below (va_Qi (fun (r : Int32) (u : (Nat → Int32) × MKp) => r = (f_X8_order to st rw set aa wh).1 ∧ u = (f_X8_order to st rw set aa wh).2) (fun (u : (Nat → Int32) × MKp) t => va_P D vwCl (mW cI cL cZ ad to u.1 mt rd un kp u.2 se) t.heap) A) ([.ref (ad 0), .int set, .int aa, .int wh] : List Value).toArray s 0 0 A := ⟨_, rfl⟩
  show W p l e (headSpec wsX8_order rm_X8_order).room s m ([.ref (ad 0), .int set, .int aa, .int wh] : List Value).toArray below meth c s.heap [] 0 0 (MQ below (va_Qi (fun (r : Int32) (u : (Nat → Int32) × MKp) => r = (f_X8_order to st rw set aa wh).1 ∧ u = (f_X8_order to st rw set aa wh).2) (fun (u : (Nat → Int32) × MKp) t => va_P D vwCl (mW cI cL cZ ad to u.1 mt rd un kp u.2 se) t.heap) A) ([.ref (ad 0), .int set, .int aa, .int wh] : List Value).toArray s 0 0 A) (F0 m 0 ls [])
  rw [← hQe]
  refine lv_aload_n hx hb dX8_order_0 rfl (lv_at hl 0 rfl) ?_
  refine lv_iload_n hx hb dX8_order_1 rfl (lv_at hl 1 rfl) ?_
  refine vp_callSi (va_Run.run (va_runV (As := [.int set]) (rest := []) ⟨hx, hb, hml, hown, hts⟩ (c_X8_arePeople l D cI cL cZ ad A to st mt rd un kp rw se set (by first | assumption | omega) (by first | assumption | omega)) (cwV 1 hts gX8_order_X8_arePeople rfl rfl rfl (by decide +kernel) ⟨Nat.le_of_ble_eq_true rfl, Nat.le_of_ble_eq_true rfl⟩) ⟨sR_fb, va_recv hK hP (ci := 8) (q0 := 0) rfl rfl, sR_at hP hK hD hE⟩ rfl rfl hl.1 rfl (lv_room (Nat.le_of_ble_eq_true rfl)) dX8_order_2 ⟨Nat.zero_le _, Nat.zero_le _⟩)) (fun r hr => ?_)
  subst hr
  refine lv_if_ne (tgt := 11) hx hb dX8_order_5 (by decide) (fun c_1 => ?_) (fun c_1 => ?_)
  · refine lv_iload_n hx hb dX8_order_11 rfl (lv_at hl 2 rfl) ?_
    refine lv_i2l hx hb dX8_order_12 rfl ?_
    refine lv_lconst (v := 0) hx hb dX8_order_13 rfl ?_
    refine lv_ldc2 (v := (59)) hx hb hown (hts (.constantLong RX8 157 (59)) (by decide +kernel)) dX8_order_14 ?_
    refine vp_callSi (va_Run.run (va_runS (As := [.long aa.toInt64, .long (0 : Int64), .long (59 : Int64)]) (rest := []) ⟨hx, hb, hml, hown, hts⟩ (c_X8_in l aa.toInt64 (0 : Int64) (59 : Int64) ) (va_cwS 3 hts gX8_order_X8_in rfl rfl rfl (by decide +kernel) ⟨Nat.le_of_ble_eq_true rfl, Nat.le_of_ble_eq_true rfl⟩) ⟨pR_fb, pR_at⟩ rfl rfl hl.1 rfl (lv_room (Nat.le_of_ble_eq_true rfl)) dX8_order_17 ⟨Nat.zero_le _, Nat.zero_le _⟩)) (fun r hr => ?_)
    subst hr
    refine lv_if_eq (tgt := 35) hx hb dX8_order_20 (by decide) (fun c_2 => ?_) (fun c_2 => ?_)
    · refine lv_bipush (v := (-3)) hx hb dX8_order_35 rfl ?_
      subst hQe
      have hf : (f_X8_order to st rw set aa wh) = ((-3 : Int32), st, rw) := by rw [f_X8_order, if_neg c_1, if_pos c_2]
      exact W.iret (v := (-3 : Int32)) hx hb hr (fun t ht hW => ⟨⟨(-3 : Int32), (st, rw), rfl, ⟨(congrArg Prod.fst hf).symm, (congrArg Prod.snd hf).symm⟩, va_Pt ht hP⟩, hS.F ht⟩) hS.2.2 dX8_order_37
    · refine lv_iload_n hx hb dX8_order_23 rfl (lv_at hl 3 rfl) ?_
      refine lv_i2l hx hb dX8_order_24 rfl ?_
      refine lv_lconst (v := 0) hx hb dX8_order_25 rfl ?_
      refine lv_ldc2 (v := (6)) hx hb hown (hts (.constantLong RX8 171 (6)) (by decide +kernel)) dX8_order_26 ?_
      refine vp_callSi (va_Run.run (va_runS (As := [.long wh.toInt64, .long (0 : Int64), .long (6 : Int64)]) (rest := []) ⟨hx, hb, hml, hown, hts⟩ (c_X8_in l wh.toInt64 (0 : Int64) (6 : Int64) ) (va_cwS 3 hts gX8_order_X8_in rfl rfl rfl (by decide +kernel) ⟨Nat.le_of_ble_eq_true rfl, Nat.le_of_ble_eq_true rfl⟩) ⟨pR_fb, pR_at⟩ rfl rfl hl.1 rfl (lv_room (Nat.le_of_ble_eq_true rfl)) dX8_order_29 ⟨Nat.zero_le _, Nat.zero_le _⟩)) (fun r hr => ?_)
      subst hr
      refine lv_if_ne (tgt := 38) hx hb dX8_order_32 (by decide) (fun c_3 => ?_) (fun c_3 => ?_)
      · have hsl : set.toNatClampNeg < 64 := aP_lt hm6 c_1
        have hwl : wh.toNatClampNeg < 7 := in_lt (by decide) c_3
        have hon := mOnes_ok set.toNatClampNeg hsl
        have hon1 := hon.2
        have hl : lv_has ls 10 [(0, .ref (ad 0)), (1, .int (nI set.toNatClampNeg)), (2, .int aa), (3, .int wh)] := by have h9 := hl; rw [aP_nat c_1] at h9; exact h9
        have hl : lv_has ls 10 [(0, .ref (ad 0)), (1, .int (nI set.toNatClampNeg)), (2, .int aa), (3, .int (nI wh.toNatClampNeg))] := by have h9 := hl; rw [in_nat c_3] at h9; exact h9
        refine lv_iconst (v := nI 0) hx hb dX8_order_38 rfl ?_
        refine lv_istore (lv' := [(4, .int (nI 0)), (0, .ref (ad 0)), (1, .int (nI set.toNatClampNeg)), (2, .int aa), (3, .int (nI wh.toNatClampNeg))]) hx hb dX8_order_39 hl (by decide) rfl (fun ls hl => ?_)
        obtain ⟨T_41_1, hT_41_1⟩ : ∃ z, z = (L_X8_order_41 st 6 0 rw.2) := ⟨_, rfl⟩
        have hexit_41 : ∀ (H : Heap) (locs : List Loc) (ls : Array Slot), va_P D vwCl (mW cI cL cZ ad to st mt rd un kp (rw.1, T_41_1) se) H → va_S A s.heap H locs → lv_has ls 10 [(0, .ref (ad 0)), (1, .int (nI set.toNatClampNeg)), (2, .int aa), (3, .int (nI wh.toNatClampNeg))] → W p l e (headSpec wsX8_order rm_X8_order).room s m ([.ref (ad 0), .int set, .int aa, .int wh] : List Value).toArray below meth c H locs 0 0 Q (F0 m 71 ls []) := by
          intro H locs ls hP hS hl
          have hD : va_D A (mW cI cL cZ ad to st mt rd un kp (rw.1, T_41_1) se) := mW_D hD
          refine lv_iload_n hx hb dX8_order_71 rfl (lv_at hl 1 rfl) ?_
          refine vp_callSi (va_Run.run (va_runS (As := [.int (nI set.toNatClampNeg)]) (rest := []) ⟨hx, hb, hml, hown, hts⟩ (c_X8_ones l set.toNatClampNeg (by first | assumption | omega)) (va_cwS 1 hts gX8_order_X8_ones rfl rfl rfl (by decide +kernel) ⟨Nat.le_of_ble_eq_true rfl, Nat.le_of_ble_eq_true rfl⟩) ⟨pR_fb, pR_at⟩ rfl rfl hl.1 rfl (lv_room (Nat.le_of_ble_eq_true rfl)) dX8_order_72 ⟨Nat.zero_le _, Nat.zero_le _⟩)) (fun r hr => ?_)
          subst hr
          refine mv_top (y := nI (mOnes set.toNatClampNeg)) (hon).1 ?_
          refine lv_istore (lv' := [(4, .int (nI (mOnes set.toNatClampNeg))), (0, .ref (ad 0)), (1, .int (nI set.toNatClampNeg)), (2, .int aa), (3, .int (nI wh.toNatClampNeg))]) hx hb dX8_order_75 hl (by decide) rfl (fun ls hl => ?_)
          refine lv_iconst (v := nI 1) hx hb dX8_order_77 rfl ?_
          refine lv_istore (lv' := [(5, .int (nI 1)), (4, .int (nI (mOnes set.toNatClampNeg))), (0, .ref (ad 0)), (1, .int (nI set.toNatClampNeg)), (2, .int aa), (3, .int (nI wh.toNatClampNeg))]) hx hb dX8_order_78 hl (by decide) rfl (fun ls hl => ?_)
          refine lv_iconst (v := nI 0) hx hb dX8_order_80 rfl ?_
          refine lv_istore (lv' := [(6, .int (nI 0)), (5, .int (nI 1)), (4, .int (nI (mOnes set.toNatClampNeg))), (0, .ref (ad 0)), (1, .int (nI set.toNatClampNeg)), (2, .int aa), (3, .int (nI wh.toNatClampNeg))]) hx hb dX8_order_81 hl (by decide) rfl (fun ls hl => ?_)
          obtain ⟨T_83_2, hT_83_2⟩ : ∃ z, z = (L_X8_order_83 (mOnes set.toNatClampNeg) 0 1) := ⟨_, rfl⟩
          have hexit_83 : ∀ (H : Heap) (locs : List Loc) (ls : Array Slot), (T_83_2 ≤ 46656) → va_P D vwCl (mW cI cL cZ ad to st mt rd un kp (rw.1, T_41_1) se) H → va_S A s.heap H locs → lv_has ls 10 [(5, .int (nI T_83_2)), (4, .int (nI (mOnes set.toNatClampNeg))), (0, .ref (ad 0)), (1, .int (nI set.toNatClampNeg)), (2, .int aa), (3, .int (nI wh.toNatClampNeg))] → W p l e (headSpec wsX8_order rm_X8_order).room s m ([.ref (ad 0), .int set, .int aa, .int wh] : List Value).toArray below meth c H locs 0 0 Q (F0 m 103 ls []) := by
            intro H locs ls hrows hP hS hl
            have hD : va_D A (mW cI cL cZ ad to st mt rd un kp (rw.1, T_41_1) se) := mW_D hD
            refine lv_iconst (v := (-1)) hx hb dX8_order_103 rfl ?_
            refine lv_istore (lv' := [(6, .int (-1 : Int32)), (5, .int (nI T_83_2)), (4, .int (nI (mOnes set.toNatClampNeg))), (0, .ref (ad 0)), (1, .int (nI set.toNatClampNeg)), (2, .int aa), (3, .int (nI wh.toNatClampNeg))]) hx hb dX8_order_104 hl (by decide) rfl (fun ls hl => ?_)
            refine lv_iconst (v := nI 0) hx hb dX8_order_106 rfl ?_
            refine lv_istore (lv' := [(7, .int (nI 0)), (6, .int (-1 : Int32)), (5, .int (nI T_83_2)), (4, .int (nI (mOnes set.toNatClampNeg))), (0, .ref (ad 0)), (1, .int (nI set.toNatClampNeg)), (2, .int aa), (3, .int (nI wh.toNatClampNeg))]) hx hb dX8_order_107 hl (by decide) rfl (fun ls hl => ?_)
            refine lv_iconst (v := nI 0) hx hb dX8_order_109 rfl ?_
            refine lv_istore (lv' := [(8, .int (nI 0)), (7, .int (nI 0)), (6, .int (-1 : Int32)), (5, .int (nI T_83_2)), (4, .int (nI (mOnes set.toNatClampNeg))), (0, .ref (ad 0)), (1, .int (nI set.toNatClampNeg)), (2, .int aa), (3, .int (nI wh.toNatClampNeg))]) hx hb dX8_order_110 hl (by decide) rfl (fun ls hl => ?_)
            obtain ⟨T_112_3, hT_112_3⟩ : ∃ z, z = (L_X8_order_112 to set aa T_83_2 0 (nI 0) (-1 : Int32) rw.1 T_41_1 st) := ⟨_, rfl⟩
            have hexit_112 : ∀ (H : Heap) (locs : List Loc) (ls : Array Slot), (∀ j, j < 60 → (T_112_3.2.2.2.2 j).toNatClampNeg < 6) → (∀ j, j < 6 → (T_112_3.2.2.1 j = nI (T_112_3.2.2.1 j).toNatClampNeg ∧ (T_112_3.2.2.1 j).toNatClampNeg < 6)) → (T_112_3.2.1.toNatClampNeg < 46656) → va_P D vwCl (mW cI cL cZ ad to T_112_3.2.2.2.2 mt rd un kp (T_112_3.2.2.1, T_112_3.2.2.2.1) se) H → va_S A s.heap H locs → lv_has ls 10 [(7, .int T_112_3.1), (6, .int T_112_3.2.1), (5, .int (nI T_83_2)), (4, .int (nI (mOnes set.toNatClampNeg))), (0, .ref (ad 0)), (1, .int (nI set.toNatClampNeg)), (2, .int aa), (3, .int (nI wh.toNatClampNeg))] → W p l e (headSpec wsX8_order rm_X8_order).room s m ([.ref (ad 0), .int set, .int aa, .int wh] : List Value).toArray below meth c H locs 0 0 Q (F0 m 171 ls []) := by
              intro H locs ls hs4 hr4 hb4 hP hS hl
              have hD : va_D A (mW cI cL cZ ad to T_112_3.2.2.2.2 mt rd un kp (T_112_3.2.2.1, T_112_3.2.2.2.1) se) := mW_D hD
              refine lv_iconst (v := nI 0) hx hb dX8_order_171 rfl ?_
              refine lv_istore (lv' := [(8, .int (nI 0)), (7, .int T_112_3.1), (6, .int T_112_3.2.1), (5, .int (nI T_83_2)), (4, .int (nI (mOnes set.toNatClampNeg))), (0, .ref (ad 0)), (1, .int (nI set.toNatClampNeg)), (2, .int aa), (3, .int (nI wh.toNatClampNeg))]) hx hb dX8_order_172 hl (by decide) rfl (fun ls hl => ?_)
              obtain ⟨T_174_4, hT_174_4⟩ : ∃ z, z = (L_X8_order_174 T_112_3 6 0 T_112_3.2.2.2.2) := ⟨_, rfl⟩
              have hexit_174 : ∀ (H : Heap) (locs : List Loc) (ls : Array Slot), va_P D vwCl (mW cI cL cZ ad to T_174_4 mt rd un kp (T_112_3.2.2.1, T_112_3.2.2.2.1) se) H → va_S A s.heap H locs → lv_has ls 10 [(7, .int T_112_3.1), (6, .int T_112_3.2.1), (5, .int (nI T_83_2)), (4, .int (nI (mOnes set.toNatClampNeg))), (0, .ref (ad 0)), (1, .int (nI set.toNatClampNeg)), (2, .int aa), (3, .int (nI wh.toNatClampNeg))] → W p l e (headSpec wsX8_order rm_X8_order).room s m ([.ref (ad 0), .int set, .int aa, .int wh] : List Value).toArray below meth c H locs 0 0 Q (F0 m 204 ls []) := by
                intro H locs ls hP hS hl
                have hD : va_D A (mW cI cL cZ ad to T_174_4 mt rd un kp (T_112_3.2.2.1, T_112_3.2.2.2.1) se) := mW_D hD
                refine lv_iload hx hb dX8_order_204 (lv_at hl 1 rfl) ?_
                refine lv_if_lt (tgt := 215) hx hb dX8_order_206 (by decide) (fun c_16 => ?_) (fun c_16 => ?_)
                · refine lv_iconst (v := (-1)) hx hb dX8_order_215 rfl ?_
                  subst hQe
                  have hf : (f_X8_order to st rw set aa wh) = ((-1 : Int32), T_174_4, (T_112_3.2.2.1, T_112_3.2.2.2.1)) := by subst hT_174_4; subst hT_112_3; subst hT_83_2; subst hT_41_1; rw [f_X8_order, if_neg c_1, if_neg c_2, if_neg c_3, if_pos c_16]
                  exact W.iret (v := (-1 : Int32)) hx hb hr (fun t ht hW => ⟨⟨(-1 : Int32), (T_174_4, (T_112_3.2.2.1, T_112_3.2.2.2.1)), rfl, ⟨(congrArg Prod.fst hf).symm, (congrArg Prod.snd hf).symm⟩, va_Pt ht hP⟩, hS.F ht⟩) hS.2.2 dX8_order_216
                · refine lv_iload_n hx hb dX8_order_209 rfl (lv_at hl 7 rfl) ?_
                  refine lv_iload hx hb dX8_order_210 (lv_at hl 3 rfl) ?_
                  refine mv_icmp_le (tgt := 217) hx hb dX8_order_212 (by decide) (by omega) (by omega) (fun c_17 => ?_) (fun c_17 => ?_)
                  · refine lv_aload_n hx hb dX8_order_217 rfl (lv_at hl 4 rfl) ?_
                    refine lv_iload hx hb dX8_order_218 (lv_at hl 1 rfl) ?_
                    refine mv_top (y := nI T_112_3.2.1.toNatClampNeg) (nI_nn c_16) ?_
                    refine lv_iload_n hx hb dX8_order_220 rfl (lv_at hl 5 rfl) ?_
                    refine lv_iload hx hb dX8_order_221 (lv_at hl 3 rfl) ?_
                    refine va_calli (va_runV (As := [.int (nI T_112_3.2.1.toNatClampNeg), .int (nI set.toNatClampNeg), .int (nI (mOnes set.toNatClampNeg))]) (rest := []) ⟨hx, hb, hml, hown, hts⟩ (c_X8_isOrder l D cI cL cZ ad A to T_174_4 mt rd un kp (T_112_3.2.2.1, T_112_3.2.2.2.1) se T_112_3.2.1.toNatClampNeg (nI set.toNatClampNeg) (mOnes set.toNatClampNeg) hb4 (by first | assumption | omega)) (cwV 3 hts gX8_order_X8_isOrder rfl rfl rfl (by decide +kernel) ⟨Nat.le_of_ble_eq_true rfl, Nat.le_of_ble_eq_true rfl⟩) ⟨sR_fb, va_recv hK hP (ci := 8) (q0 := 0) rfl rfl, sR_at hP hK hD hE⟩ rfl rfl hl.1 rfl (lv_room (Nat.le_of_ble_eq_true rfl)) dX8_order_223 ⟨Nat.zero_le _, Nat.zero_le _⟩) hS (fun q _ h => h) (fun q h => h) (fun r u t H locs ht hvm hw hB hz1 hk1 hS => ?_)
                    obtain ⟨rfl, rfl⟩ := hw
                    rw [ht] at hB
                    have hP : va_P D vwCl (mW cI cL cZ ad to T_174_4 mt rd un kp ((f_X8_isOrder (T_112_3.2.2.1, T_112_3.2.2.2.1) T_112_3.2.1.toNatClampNeg (nI set.toNatClampNeg) (mOnes set.toNatClampNeg)).2) se) H := hB
                    have hD : va_D A (mW cI cL cZ ad to T_174_4 mt rd un kp ((f_X8_isOrder (T_112_3.2.2.1, T_112_3.2.2.2.1) T_112_3.2.1.toNatClampNeg (nI set.toNatClampNeg) (mOnes set.toNatClampNeg)).2) se) := mW_D hD
                    refine lv_pop hx hb dX8_order_226 rfl ?_
                    refine lv_iload_n hx hb dX8_order_227 rfl (lv_at hl 7 rfl) ?_
                    refine mv_phi (v := (if wh.toNatClampNeg = 0 then T_112_3.1 else ((((f_X8_isOrder (T_112_3.2.2.1, T_112_3.2.2.2.1) T_112_3.2.1.toNatClampNeg (nI set.toNatClampNeg) (mOnes set.toNatClampNeg)).2).1) (wh.toNatClampNeg - 1)))) (pcj := 244) (ls := ls) (rest' := []) ?_ (fun J_18 => ?_)
                    · subst hQe
                      have hf : (f_X8_order to st rw set aa wh) = ((if wh.toNatClampNeg = 0 then T_112_3.1 else ((((f_X8_isOrder (T_112_3.2.2.1, T_112_3.2.2.2.1) T_112_3.2.1.toNatClampNeg (nI set.toNatClampNeg) (mOnes set.toNatClampNeg)).2).1) (wh.toNatClampNeg - 1))), T_174_4, ((f_X8_isOrder (T_112_3.2.2.1, T_112_3.2.2.2.1) T_112_3.2.1.toNatClampNeg (nI set.toNatClampNeg) (mOnes set.toNatClampNeg)).2)) := by subst hT_174_4; subst hT_112_3; subst hT_83_2; subst hT_41_1; rw [f_X8_order, if_neg c_1, if_neg c_2, if_neg c_3, if_neg c_16, if_pos c_17]
                      exact W.iret (v := (if wh.toNatClampNeg = 0 then T_112_3.1 else ((((f_X8_isOrder (T_112_3.2.2.1, T_112_3.2.2.2.1) T_112_3.2.1.toNatClampNeg (nI set.toNatClampNeg) (mOnes set.toNatClampNeg)).2).1) (wh.toNatClampNeg - 1)))) hx hb hr (fun t ht hW => ⟨⟨(if wh.toNatClampNeg = 0 then T_112_3.1 else ((((f_X8_isOrder (T_112_3.2.2.1, T_112_3.2.2.2.1) T_112_3.2.1.toNatClampNeg (nI set.toNatClampNeg) (mOnes set.toNatClampNeg)).2).1) (wh.toNatClampNeg - 1))), (T_174_4, ((f_X8_isOrder (T_112_3.2.2.1, T_112_3.2.2.2.1) T_112_3.2.1.toNatClampNeg (nI set.toNatClampNeg) (mOnes set.toNatClampNeg)).2)), rfl, ⟨(congrArg Prod.fst hf).symm, (congrArg Prod.snd hf).symm⟩, va_Pt ht hP⟩, hS.F ht⟩) hS.2.2 dX8_order_244
                    · refine mv_if_ne (tgt := 236) hx hb dX8_order_228 (by decide) (by omega) (fun c_19 => ?_) (fun c_19 => ?_)
                      · refine lv_aload_n hx hb dX8_order_236 rfl (lv_at hl 4 rfl) ?_
                        refine va_get (D := D) (ci := 8) (v := .ref (ad 8)) (C := RX8) (T := TX8) (N := 18) hx hb hts (by decide +kernel) hown hK hP 0 rfl rfl 14 (by decide) (hts (.fieldLink RX8 32 "SummitTimeModel" "row" "[I") (by decide +kernel)) (fun _ h9 => h9) rfl dX8_order_237 ?_
                        refine lv_iload_n hx hb dX8_order_240 rfl (lv_at hl 7 rfl) ?_
                        refine lv_iconst (v := nI 1) hx hb dX8_order_241 rfl ?_
                        refine mv_isub hx hb dX8_order_242 (by omega) ?_
                        refine mv_iald (f := ((f_X8_isOrder (T_112_3.2.2.1, T_112_3.2.2.2.1) T_112_3.2.1.toNatClampNeg (nI set.toNatClampNeg) (mOnes set.toNatClampNeg)).2).1) hx hb hK hP 8 0 rfl rfl (by omega) (by decide) dX8_order_243 ?_
                        exact J_18 _ (by rw [if_neg c_19])
                      · refine lv_iload hx hb dX8_order_231 (lv_at hl 0 rfl) ?_
                        refine lv_goto (tgt := 244) hx hb dX8_order_233 (by decide) ?_
                        exact J_18 _ (by rw [if_pos c_19])
                  · refine lv_iconst (v := (-1)) hx hb dX8_order_215 rfl ?_
                    subst hQe
                    have hf : (f_X8_order to st rw set aa wh) = ((-1 : Int32), T_174_4, (T_112_3.2.2.1, T_112_3.2.2.2.1)) := by subst hT_174_4; subst hT_112_3; subst hT_83_2; subst hT_41_1; rw [f_X8_order, if_neg c_1, if_neg c_2, if_neg c_3, if_neg c_16, if_neg c_17]
                    exact W.iret (v := (-1 : Int32)) hx hb hr (fun t ht hW => ⟨⟨(-1 : Int32), (T_174_4, (T_112_3.2.2.1, T_112_3.2.2.2.1)), rfl, ⟨(congrArg Prod.fst hf).symm, (congrArg Prod.snd hf).symm⟩, va_Pt ht hP⟩, hS.F ht⟩) hS.2.2 dX8_order_216
              have loop_174 : ∀ (n_174 : Nat) (k_174 : Nat) (wst0_174 : Nat → Int32), (k_174 + n_174 = 6) → L_X8_order_174 T_112_3 n_174 k_174 wst0_174 = T_174_4 → ∀ (H : Heap) (locs : List Loc) (ls : Array Slot), va_P D vwCl (mW cI cL cZ ad to wst0_174 mt rd un kp (T_112_3.2.2.1, T_112_3.2.2.2.1) se) H → va_S A s.heap H locs → lv_has ls 10 [(8, .int (nI k_174)), (7, .int T_112_3.1), (6, .int T_112_3.2.1), (5, .int (nI T_83_2)), (4, .int (nI (mOnes set.toNatClampNeg))), (0, .ref (ad 0)), (1, .int (nI set.toNatClampNeg)), (2, .int aa), (3, .int (nI wh.toNatClampNeg))] → W p l e (headSpec wsX8_order rm_X8_order).room s m ([.ref (ad 0), .int set, .int aa, .int wh] : List Value).toArray below meth c H locs 0 0 Q (F0 m 174 ls []) := by
                intro n_174
                induction n_174 with
                | zero =>
                  intro k_174 wst0_174 hk_174 hL_174 H locs ls hP hS hl
                  have hD : va_D A (mW cI cL cZ ad to wst0_174 mt rd un kp (T_112_3.2.2.1, T_112_3.2.2.2.1) se) := mW_D hD
                  refine lv_iload hx hb dX8_order_174 (lv_at hl 0 rfl) ?_
                  refine lv_bipush (v := nI 6) hx hb dX8_order_176 rfl ?_
                  refine mv_icmp_ge (tgt := 204) hx hb dX8_order_178 (by decide) (by omega) (by decide) (fun c_15 => ?_) (fun c_15 => (by omega : False).elim)
                  have e9 : T_174_4 = wst0_174 := by rw [← hL_174, L_X8_order_174]
                  have hq := hexit_174
                  rw [e9] at hq
                  exact hq _ _ ls  hP hS (lv_sub hl [1, 2, 3, 4, 5, 6, 7, 8] rfl)
                | succ n_174 ih_174 =>
                  intro k_174 wst0_174 hk_174 hL_174 H locs ls hP hS hl
                  have hD : va_D A (mW cI cL cZ ad to wst0_174 mt rd un kp (T_112_3.2.2.1, T_112_3.2.2.2.1) se) := mW_D hD
                  refine lv_iload hx hb dX8_order_174 (lv_at hl 0 rfl) ?_
                  refine lv_bipush (v := nI 6) hx hb dX8_order_176 rfl ?_
                  refine mv_icmp_ge (tgt := 204) hx hb dX8_order_178 (by decide) (by omega) (by decide) (fun c_14 => (by omega : False).elim) (fun c_14 => ?_)
                  refine lv_aload_n hx hb dX8_order_181 rfl (lv_at hl 5 rfl) ?_
                  refine va_get (D := D) (ci := 8) (v := .ref (ad 2)) (C := RX8) (T := TX8) (N := 18) hx hb hts (by decide +kernel) hown hK hP 0 rfl rfl 1 (by decide) (hts (.fieldLink RX8 13 "SummitTimeModel" "st" "[I") (by decide +kernel)) (fun _ h9 => h9) rfl dX8_order_182 ?_
                  refine lv_bipush (v := nI 60) hx hb dX8_order_185 rfl ?_
                  refine lv_iload hx hb dX8_order_187 (lv_at hl 0 rfl) ?_
                  refine mv_iadd hx hb dX8_order_189 ?_
                  refine lv_aload_n hx hb dX8_order_190 rfl (lv_at hl 5 rfl) ?_
                  refine va_get (D := D) (ci := 8) (v := .ref (ad 9)) (C := RX8) (T := TX8) (N := 18) hx hb hts (by decide +kernel) hown hK hP 0 rfl rfl 15 (by decide) (hts (.fieldLink RX8 35 "SummitTimeModel" "aside" "[I") (by decide +kernel)) (fun _ h9 => h9) rfl dX8_order_191 ?_
                  refine lv_iload hx hb dX8_order_194 (lv_at hl 0 rfl) ?_
                  refine mv_iald (f := T_112_3.2.2.2.1) hx hb hK hP 9 0 rfl rfl (by omega) (by decide) dX8_order_196 ?_
                  refine mv_iast (f := wst0_174) hx hb hK hP hD hS 2 0 rfl rfl (by omega) (by decide) dX8_order_197 (fun H locs hP hD hS => ?_)
                  have hP : va_P D vwCl (mW cI cL cZ ad to (upd wst0_174 (60 + k_174) (T_112_3.2.2.2.1 k_174)) mt rd un kp (T_112_3.2.2.1, T_112_3.2.2.2.1) se) H := hP
                  have hD : va_D A (mW cI cL cZ ad to (upd wst0_174 (60 + k_174) (T_112_3.2.2.2.1 k_174)) mt rd un kp (T_112_3.2.2.1, T_112_3.2.2.2.1) se) := hD
                  refine mv_iinc (y := k_174 + 1) (lv' := [(8, .int (nI (k_174 + 1))), (7, .int T_112_3.1), (6, .int T_112_3.2.1), (5, .int (nI T_83_2)), (4, .int (nI (mOnes set.toNatClampNeg))), (0, .ref (ad 0)), (1, .int (nI set.toNatClampNeg)), (2, .int aa), (3, .int (nI wh.toNatClampNeg))]) hx hb dX8_order_198 hl (k := 0) rfl (nI_p1 _) (by decide) rfl (fun ls hl => ?_)
                  refine lv_goto (tgt := 174) hx hb dX8_order_201 (by decide) ?_
                  exact ih_174 (k_174 + 1) (upd wst0_174 (60 + k_174) (T_112_3.2.2.2.1 k_174)) (by omega) (by have e9 := hL_174; rw [L_X8_order_174] at e9; exact e9) _ _ ls hP hS (lv_sub hl [0, 1, 2, 3, 4, 5, 6, 7, 8] rfl)
              exact loop_174 6 0 T_112_3.2.2.2.2 (by omega) hT_174_4.symm _ _ ls hP hS (lv_sub hl [0, 1, 2, 3, 4, 5, 6, 7, 8] rfl)
            have loop_112 : ∀ (n_112 : Nat) (k_112 : Nat) (x7_112 : Int32) (x6_112 : Int32) (wrw0_112 : Nat → Int32) (wrw1_112 : Nat → Int32) (wst0_112 : Nat → Int32), (k_112 + n_112 = T_83_2) → (∀ j, j < 60 → (wst0_112 j).toNatClampNeg < 6) → (∀ j, j < 6 → (wrw0_112 j = nI (wrw0_112 j).toNatClampNeg ∧ (wrw0_112 j).toNatClampNeg < 6)) → (x6_112.toNatClampNeg < 46656) → L_X8_order_112 to set aa n_112 k_112 x7_112 x6_112 wrw0_112 wrw1_112 wst0_112 = T_112_3 → ∀ (H : Heap) (locs : List Loc) (ls : Array Slot), va_P D vwCl (mW cI cL cZ ad to wst0_112 mt rd un kp (wrw0_112, wrw1_112) se) H → va_S A s.heap H locs → lv_has ls 10 [(8, .int (nI k_112)), (7, .int x7_112), (6, .int x6_112), (5, .int (nI T_83_2)), (4, .int (nI (mOnes set.toNatClampNeg))), (0, .ref (ad 0)), (1, .int (nI set.toNatClampNeg)), (2, .int aa), (3, .int (nI wh.toNatClampNeg))] → W p l e (headSpec wsX8_order rm_X8_order).room s m ([.ref (ad 0), .int set, .int aa, .int wh] : List Value).toArray below meth c H locs 0 0 Q (F0 m 112 ls []) := by
              intro n_112
              induction n_112 with
              | zero =>
                intro k_112 x7_112 x6_112 wrw0_112 wrw1_112 wst0_112 hk_112 hsw hrv hbe hL_112 H locs ls hP hS hl
                have hD : va_D A (mW cI cL cZ ad to wst0_112 mt rd un kp (wrw0_112, wrw1_112) se) := mW_D hD
                refine lv_iload hx hb dX8_order_112 (lv_at hl 0 rfl) ?_
                refine lv_iload hx hb dX8_order_114 (lv_at hl 3 rfl) ?_
                refine mv_icmp_ge (tgt := 171) hx hb dX8_order_116 (by decide) (by omega) (by omega) (fun c_13 => ?_) (fun c_13 => (by omega : False).elim)
                have e9 : T_112_3 = (x7_112, x6_112, wrw0_112, wrw1_112, wst0_112) := by rw [← hL_112, L_X8_order_112]
                have hq := hexit_112
                rw [e9] at hq
                exact hq _ _ ls hsw hrv hbe hP hS (lv_sub hl [1, 2, 3, 4, 5, 6, 7, 8] rfl)
              | succ n_112 ih_112 =>
                intro k_112 x7_112 x6_112 wrw0_112 wrw1_112 wst0_112 hk_112 hsw hrv hbe hL_112 H locs ls hP hS hl
                have hD : va_D A (mW cI cL cZ ad to wst0_112 mt rd un kp (wrw0_112, wrw1_112) se) := mW_D hD
                refine lv_iload hx hb dX8_order_112 (lv_at hl 0 rfl) ?_
                refine lv_iload hx hb dX8_order_114 (lv_at hl 3 rfl) ?_
                refine mv_icmp_ge (tgt := 171) hx hb dX8_order_116 (by decide) (by omega) (by omega) (fun c_8 => (by omega : False).elim) (fun c_8 => ?_)
                refine lv_aload_n hx hb dX8_order_119 rfl (lv_at hl 5 rfl) ?_
                refine lv_iload hx hb dX8_order_120 (lv_at hl 0 rfl) ?_
                refine lv_iload_n hx hb dX8_order_122 rfl (lv_at hl 6 rfl) ?_
                refine lv_iload hx hb dX8_order_123 (lv_at hl 4 rfl) ?_
                refine va_calli (va_runV (As := [.int (nI k_112), .int (nI set.toNatClampNeg), .int (nI (mOnes set.toNatClampNeg))]) (rest := []) ⟨hx, hb, hml, hown, hts⟩ (c_X8_isOrder l D cI cL cZ ad A to wst0_112 mt rd un kp (wrw0_112, wrw1_112) se k_112 (nI set.toNatClampNeg) (mOnes set.toNatClampNeg) (by first | assumption | omega) (by first | assumption | omega)) (cwV 3 hts gX8_order_X8_isOrder rfl rfl rfl (by decide +kernel) ⟨Nat.le_of_ble_eq_true rfl, Nat.le_of_ble_eq_true rfl⟩) ⟨sR_fb, va_recv hK hP (ci := 8) (q0 := 0) rfl rfl, sR_at hP hK hD hE⟩ rfl rfl hl.1 rfl (lv_room (Nat.le_of_ble_eq_true rfl)) dX8_order_125 ⟨Nat.zero_le _, Nat.zero_le _⟩) hS (fun q _ h => h) (fun q h => h) (fun r u t H locs ht hvm hw hB hz1 hk1 hS => ?_)
                obtain ⟨rfl, rfl⟩ := hw
                rw [ht] at hB
                have hP : va_P D vwCl (mW cI cL cZ ad to wst0_112 mt rd un kp ((f_X8_isOrder (wrw0_112, wrw1_112) k_112 (nI set.toNatClampNeg) (mOnes set.toNatClampNeg)).2) se) H := hB
                have hD : va_D A (mW cI cL cZ ad to wst0_112 mt rd un kp ((f_X8_isOrder (wrw0_112, wrw1_112) k_112 (nI set.toNatClampNeg) (mOnes set.toNatClampNeg)).2) se) := mW_D hD
                refine lv_if_eq (tgt := 165) hx hb dX8_order_128 (by decide) (fun c_9 => ?_) (fun c_9 => ?_)
                · refine mv_iinc (y := k_112 + 1) (lv' := [(8, .int (nI (k_112 + 1))), (7, .int x7_112), (6, .int x6_112), (5, .int (nI T_83_2)), (4, .int (nI (mOnes set.toNatClampNeg))), (0, .ref (ad 0)), (1, .int (nI set.toNatClampNeg)), (2, .int aa), (3, .int (nI wh.toNatClampNeg))]) hx hb dX8_order_165 hl (k := 0) rfl (nI_p1 _) (by decide) rfl (fun ls hl => ?_)
                  refine lv_goto (tgt := 112) hx hb dX8_order_168 (by decide) ?_
                  exact ih_112 (k_112 + 1) x7_112 x6_112 (((f_X8_isOrder (wrw0_112, wrw1_112) k_112 (nI set.toNatClampNeg) (mOnes set.toNatClampNeg)).2).1) (((f_X8_isOrder (wrw0_112, wrw1_112) k_112 (nI set.toNatClampNeg) (mOnes set.toNatClampNeg)).2).2) wst0_112 (by omega) (by first | exact hsw | exact so_rowFine hsw) (ro_isOrder hrv) (by first | exact hbe | (rw [nI_clamp (by omega)]; omega)) (by have e9 := hL_112; rw [L_X8_order_112, if_pos c_9] at e9; exact e9) _ _ ls hP hS (lv_sub hl [0, 1, 2, 3, 4, 5, 6, 7, 8] rfl)
                · refine lv_aload_n hx hb dX8_order_131 rfl (lv_at hl 5 rfl) ?_
                  refine lv_iload hx hb dX8_order_132 (lv_at hl 4 rfl) ?_
                  refine lv_iload_n hx hb dX8_order_134 rfl (lv_at hl 7 rfl) ?_
                  refine va_calli (va_runV (As := [.int (nI (mOnes set.toNatClampNeg)), .int aa]) (rest := []) ⟨hx, hb, hml, hown, hts⟩ (c_X8_rowFine l D cI cL cZ ad A to wst0_112 mt rd un kp ((f_X8_isOrder (wrw0_112, wrw1_112) k_112 (nI set.toNatClampNeg) (mOnes set.toNatClampNeg)).2) se (mOnes set.toNatClampNeg) aa (by first | assumption | omega) hsw (ro_isOrder hrv)) (cwV 2 hts gX8_order_X8_rowFine rfl rfl rfl (by decide +kernel) ⟨Nat.le_of_ble_eq_true rfl, Nat.le_of_ble_eq_true rfl⟩) ⟨sR_fb, va_recv hK hP (ci := 8) (q0 := 0) rfl rfl, sR_at hP hK hD hE⟩ rfl rfl hl.1 rfl (lv_room (Nat.le_of_ble_eq_true rfl)) dX8_order_135 ⟨Nat.zero_le _, Nat.zero_le _⟩) hS (fun q _ h => h) (fun q h => h) (fun r u t H locs ht hvm hw hB hz1 hk1 hS => ?_)
                  obtain ⟨rfl, rfl⟩ := hw
                  rw [ht] at hB
                  have hP : va_P D vwCl (mW cI cL cZ ad to ((f_X8_rowFine to wst0_112 ((f_X8_isOrder (wrw0_112, wrw1_112) k_112 (nI set.toNatClampNeg) (mOnes set.toNatClampNeg)).2) (mOnes set.toNatClampNeg) aa).2) mt rd un kp ((f_X8_isOrder (wrw0_112, wrw1_112) k_112 (nI set.toNatClampNeg) (mOnes set.toNatClampNeg)).2) se) H := hB
                  have hD : va_D A (mW cI cL cZ ad to ((f_X8_rowFine to wst0_112 ((f_X8_isOrder (wrw0_112, wrw1_112) k_112 (nI set.toNatClampNeg) (mOnes set.toNatClampNeg)).2) (mOnes set.toNatClampNeg) aa).2) mt rd un kp ((f_X8_isOrder (wrw0_112, wrw1_112) k_112 (nI set.toNatClampNeg) (mOnes set.toNatClampNeg)).2) se) := mW_D hD
                  refine lv_istore (lv' := [(9, .int ((f_X8_rowFine to wst0_112 ((f_X8_isOrder (wrw0_112, wrw1_112) k_112 (nI set.toNatClampNeg) (mOnes set.toNatClampNeg)).2) (mOnes set.toNatClampNeg) aa).1)), (8, .int (nI k_112)), (7, .int x7_112), (6, .int x6_112), (5, .int (nI T_83_2)), (4, .int (nI (mOnes set.toNatClampNeg))), (0, .ref (ad 0)), (1, .int (nI set.toNatClampNeg)), (2, .int aa), (3, .int (nI wh.toNatClampNeg))]) hx hb dX8_order_138 hl (by decide) rfl (fun ls hl => ?_)
                  refine lv_iload hx hb dX8_order_140 (lv_at hl 0 rfl) ?_
                  refine lv_if_lt (tgt := 165) hx hb dX8_order_142 (by decide) (fun c_10 => ?_) (fun c_10 => ?_)
                  · refine mv_iinc (y := k_112 + 1) (lv' := [(8, .int (nI (k_112 + 1))), (9, .int ((f_X8_rowFine to wst0_112 ((f_X8_isOrder (wrw0_112, wrw1_112) k_112 (nI set.toNatClampNeg) (mOnes set.toNatClampNeg)).2) (mOnes set.toNatClampNeg) aa).1)), (7, .int x7_112), (6, .int x6_112), (5, .int (nI T_83_2)), (4, .int (nI (mOnes set.toNatClampNeg))), (0, .ref (ad 0)), (1, .int (nI set.toNatClampNeg)), (2, .int aa), (3, .int (nI wh.toNatClampNeg))]) hx hb dX8_order_165 hl (k := 1) rfl (nI_p1 _) (by decide) rfl (fun ls hl => ?_)
                    refine lv_goto (tgt := 112) hx hb dX8_order_168 (by decide) ?_
                    exact ih_112 (k_112 + 1) x7_112 x6_112 (((f_X8_isOrder (wrw0_112, wrw1_112) k_112 (nI set.toNatClampNeg) (mOnes set.toNatClampNeg)).2).1) (((f_X8_isOrder (wrw0_112, wrw1_112) k_112 (nI set.toNatClampNeg) (mOnes set.toNatClampNeg)).2).2) ((f_X8_rowFine to wst0_112 ((f_X8_isOrder (wrw0_112, wrw1_112) k_112 (nI set.toNatClampNeg) (mOnes set.toNatClampNeg)).2) (mOnes set.toNatClampNeg) aa).2) (by omega) (by first | exact hsw | exact so_rowFine hsw) (ro_isOrder hrv) (by first | exact hbe | (rw [nI_clamp (by omega)]; omega)) (by have e9 := hL_112; rw [L_X8_order_112, if_neg c_9, if_pos c_10] at e9; exact e9) _ _ ls hP hS (lv_sub hl [0, 2, 3, 4, 5, 6, 7, 8, 9] rfl)
                  · refine lv_iload hx hb dX8_order_145 (lv_at hl 3 rfl) ?_
                    refine lv_if_lt (tgt := 157) hx hb dX8_order_147 (by decide) (fun c_11 => ?_) (fun c_11 => ?_)
                    · refine lv_iload hx hb dX8_order_157 (lv_at hl 1 rfl) ?_
                      refine lv_istore (lv' := [(6, .int (nI k_112)), (9, .int ((f_X8_rowFine to wst0_112 ((f_X8_isOrder (wrw0_112, wrw1_112) k_112 (nI set.toNatClampNeg) (mOnes set.toNatClampNeg)).2) (mOnes set.toNatClampNeg) aa).1)), (8, .int (nI k_112)), (7, .int x7_112), (5, .int (nI T_83_2)), (4, .int (nI (mOnes set.toNatClampNeg))), (0, .ref (ad 0)), (1, .int (nI set.toNatClampNeg)), (2, .int aa), (3, .int (nI wh.toNatClampNeg))]) hx hb dX8_order_159 hl (by decide) rfl (fun ls hl => ?_)
                      refine lv_iload hx hb dX8_order_161 (lv_at hl 1 rfl) ?_
                      refine lv_istore (lv' := [(7, .int ((f_X8_rowFine to wst0_112 ((f_X8_isOrder (wrw0_112, wrw1_112) k_112 (nI set.toNatClampNeg) (mOnes set.toNatClampNeg)).2) (mOnes set.toNatClampNeg) aa).1)), (6, .int (nI k_112)), (9, .int ((f_X8_rowFine to wst0_112 ((f_X8_isOrder (wrw0_112, wrw1_112) k_112 (nI set.toNatClampNeg) (mOnes set.toNatClampNeg)).2) (mOnes set.toNatClampNeg) aa).1)), (8, .int (nI k_112)), (5, .int (nI T_83_2)), (4, .int (nI (mOnes set.toNatClampNeg))), (0, .ref (ad 0)), (1, .int (nI set.toNatClampNeg)), (2, .int aa), (3, .int (nI wh.toNatClampNeg))]) hx hb dX8_order_163 hl (by decide) rfl (fun ls hl => ?_)
                      refine mv_iinc (y := k_112 + 1) (lv' := [(8, .int (nI (k_112 + 1))), (7, .int ((f_X8_rowFine to wst0_112 ((f_X8_isOrder (wrw0_112, wrw1_112) k_112 (nI set.toNatClampNeg) (mOnes set.toNatClampNeg)).2) (mOnes set.toNatClampNeg) aa).1)), (6, .int (nI k_112)), (9, .int ((f_X8_rowFine to wst0_112 ((f_X8_isOrder (wrw0_112, wrw1_112) k_112 (nI set.toNatClampNeg) (mOnes set.toNatClampNeg)).2) (mOnes set.toNatClampNeg) aa).1)), (5, .int (nI T_83_2)), (4, .int (nI (mOnes set.toNatClampNeg))), (0, .ref (ad 0)), (1, .int (nI set.toNatClampNeg)), (2, .int aa), (3, .int (nI wh.toNatClampNeg))]) hx hb dX8_order_165 hl (k := 3) rfl (nI_p1 _) (by decide) rfl (fun ls hl => ?_)
                      refine lv_goto (tgt := 112) hx hb dX8_order_168 (by decide) ?_
                      exact ih_112 (k_112 + 1) ((f_X8_rowFine to wst0_112 ((f_X8_isOrder (wrw0_112, wrw1_112) k_112 (nI set.toNatClampNeg) (mOnes set.toNatClampNeg)).2) (mOnes set.toNatClampNeg) aa).1) (nI k_112) (((f_X8_isOrder (wrw0_112, wrw1_112) k_112 (nI set.toNatClampNeg) (mOnes set.toNatClampNeg)).2).1) (((f_X8_isOrder (wrw0_112, wrw1_112) k_112 (nI set.toNatClampNeg) (mOnes set.toNatClampNeg)).2).2) ((f_X8_rowFine to wst0_112 ((f_X8_isOrder (wrw0_112, wrw1_112) k_112 (nI set.toNatClampNeg) (mOnes set.toNatClampNeg)).2) (mOnes set.toNatClampNeg) aa).2) (by omega) (by first | exact hsw | exact so_rowFine hsw) (ro_isOrder hrv) (by first | exact hbe | (rw [nI_clamp (by omega)]; omega)) (by have e9 := hL_112; rw [L_X8_order_112, if_neg c_9, if_neg c_10, if_pos c_11] at e9; exact e9) _ _ ls hP hS (lv_sub hl [0, 1, 2, 4, 5, 6, 7, 8, 9] rfl)
                    · refine lv_iload hx hb dX8_order_150 (lv_at hl 0 rfl) ?_
                      refine lv_iload hx hb dX8_order_152 (lv_at hl 2 rfl) ?_
                      refine lv_icmp_ge (tgt := 165) hx hb dX8_order_154 (by decide) (fun c_12 => ?_) (fun c_12 => ?_)
                      · refine mv_iinc (y := k_112 + 1) (lv' := [(8, .int (nI (k_112 + 1))), (9, .int ((f_X8_rowFine to wst0_112 ((f_X8_isOrder (wrw0_112, wrw1_112) k_112 (nI set.toNatClampNeg) (mOnes set.toNatClampNeg)).2) (mOnes set.toNatClampNeg) aa).1)), (7, .int x7_112), (6, .int x6_112), (5, .int (nI T_83_2)), (4, .int (nI (mOnes set.toNatClampNeg))), (0, .ref (ad 0)), (1, .int (nI set.toNatClampNeg)), (2, .int aa), (3, .int (nI wh.toNatClampNeg))]) hx hb dX8_order_165 hl (k := 1) rfl (nI_p1 _) (by decide) rfl (fun ls hl => ?_)
                        refine lv_goto (tgt := 112) hx hb dX8_order_168 (by decide) ?_
                        exact ih_112 (k_112 + 1) x7_112 x6_112 (((f_X8_isOrder (wrw0_112, wrw1_112) k_112 (nI set.toNatClampNeg) (mOnes set.toNatClampNeg)).2).1) (((f_X8_isOrder (wrw0_112, wrw1_112) k_112 (nI set.toNatClampNeg) (mOnes set.toNatClampNeg)).2).2) ((f_X8_rowFine to wst0_112 ((f_X8_isOrder (wrw0_112, wrw1_112) k_112 (nI set.toNatClampNeg) (mOnes set.toNatClampNeg)).2) (mOnes set.toNatClampNeg) aa).2) (by omega) (by first | exact hsw | exact so_rowFine hsw) (ro_isOrder hrv) (by first | exact hbe | (rw [nI_clamp (by omega)]; omega)) (by have e9 := hL_112; rw [L_X8_order_112, if_neg c_9, if_neg c_10, if_neg c_11, if_pos c_12] at e9; exact e9) _ _ ls hP hS (lv_sub hl [0, 2, 3, 4, 5, 6, 7, 8, 9] rfl)
                      · refine lv_iload hx hb dX8_order_157 (lv_at hl 1 rfl) ?_
                        refine lv_istore (lv' := [(6, .int (nI k_112)), (9, .int ((f_X8_rowFine to wst0_112 ((f_X8_isOrder (wrw0_112, wrw1_112) k_112 (nI set.toNatClampNeg) (mOnes set.toNatClampNeg)).2) (mOnes set.toNatClampNeg) aa).1)), (8, .int (nI k_112)), (7, .int x7_112), (5, .int (nI T_83_2)), (4, .int (nI (mOnes set.toNatClampNeg))), (0, .ref (ad 0)), (1, .int (nI set.toNatClampNeg)), (2, .int aa), (3, .int (nI wh.toNatClampNeg))]) hx hb dX8_order_159 hl (by decide) rfl (fun ls hl => ?_)
                        refine lv_iload hx hb dX8_order_161 (lv_at hl 1 rfl) ?_
                        refine lv_istore (lv' := [(7, .int ((f_X8_rowFine to wst0_112 ((f_X8_isOrder (wrw0_112, wrw1_112) k_112 (nI set.toNatClampNeg) (mOnes set.toNatClampNeg)).2) (mOnes set.toNatClampNeg) aa).1)), (6, .int (nI k_112)), (9, .int ((f_X8_rowFine to wst0_112 ((f_X8_isOrder (wrw0_112, wrw1_112) k_112 (nI set.toNatClampNeg) (mOnes set.toNatClampNeg)).2) (mOnes set.toNatClampNeg) aa).1)), (8, .int (nI k_112)), (5, .int (nI T_83_2)), (4, .int (nI (mOnes set.toNatClampNeg))), (0, .ref (ad 0)), (1, .int (nI set.toNatClampNeg)), (2, .int aa), (3, .int (nI wh.toNatClampNeg))]) hx hb dX8_order_163 hl (by decide) rfl (fun ls hl => ?_)
                        refine mv_iinc (y := k_112 + 1) (lv' := [(8, .int (nI (k_112 + 1))), (7, .int ((f_X8_rowFine to wst0_112 ((f_X8_isOrder (wrw0_112, wrw1_112) k_112 (nI set.toNatClampNeg) (mOnes set.toNatClampNeg)).2) (mOnes set.toNatClampNeg) aa).1)), (6, .int (nI k_112)), (9, .int ((f_X8_rowFine to wst0_112 ((f_X8_isOrder (wrw0_112, wrw1_112) k_112 (nI set.toNatClampNeg) (mOnes set.toNatClampNeg)).2) (mOnes set.toNatClampNeg) aa).1)), (5, .int (nI T_83_2)), (4, .int (nI (mOnes set.toNatClampNeg))), (0, .ref (ad 0)), (1, .int (nI set.toNatClampNeg)), (2, .int aa), (3, .int (nI wh.toNatClampNeg))]) hx hb dX8_order_165 hl (k := 3) rfl (nI_p1 _) (by decide) rfl (fun ls hl => ?_)
                        refine lv_goto (tgt := 112) hx hb dX8_order_168 (by decide) ?_
                        exact ih_112 (k_112 + 1) ((f_X8_rowFine to wst0_112 ((f_X8_isOrder (wrw0_112, wrw1_112) k_112 (nI set.toNatClampNeg) (mOnes set.toNatClampNeg)).2) (mOnes set.toNatClampNeg) aa).1) (nI k_112) (((f_X8_isOrder (wrw0_112, wrw1_112) k_112 (nI set.toNatClampNeg) (mOnes set.toNatClampNeg)).2).1) (((f_X8_isOrder (wrw0_112, wrw1_112) k_112 (nI set.toNatClampNeg) (mOnes set.toNatClampNeg)).2).2) ((f_X8_rowFine to wst0_112 ((f_X8_isOrder (wrw0_112, wrw1_112) k_112 (nI set.toNatClampNeg) (mOnes set.toNatClampNeg)).2) (mOnes set.toNatClampNeg) aa).2) (by omega) (by first | exact hsw | exact so_rowFine hsw) (ro_isOrder hrv) (by first | exact hbe | (rw [nI_clamp (by omega)]; omega)) (by have e9 := hL_112; rw [L_X8_order_112, if_neg c_9, if_neg c_10, if_neg c_11, if_neg c_12] at e9; exact e9) _ _ ls hP hS (lv_sub hl [0, 1, 2, 4, 5, 6, 7, 8, 9] rfl)
            exact loop_112 T_83_2 0 (nI 0) (-1 : Int32) rw.1 T_41_1 st (by omega) hso hrw (by decide) hT_112_3.symm _ _ ls hP hS (lv_sub hl [0, 1, 2, 3, 4, 5, 6, 7, 8] rfl)
          have loop_83 : ∀ (n_83 : Nat) (k_83 : Nat) (x5_83 : Nat), (k_83 + n_83 = (mOnes set.toNatClampNeg)) → (x5_83 = 6 ^ k_83) → L_X8_order_83 n_83 k_83 x5_83 = T_83_2 → ∀ (H : Heap) (locs : List Loc) (ls : Array Slot), va_P D vwCl (mW cI cL cZ ad to st mt rd un kp (rw.1, T_41_1) se) H → va_S A s.heap H locs → lv_has ls 10 [(6, .int (nI k_83)), (5, .int (nI x5_83)), (4, .int (nI (mOnes set.toNatClampNeg))), (0, .ref (ad 0)), (1, .int (nI set.toNatClampNeg)), (2, .int aa), (3, .int (nI wh.toNatClampNeg))] → W p l e (headSpec wsX8_order rm_X8_order).room s m ([.ref (ad 0), .int set, .int aa, .int wh] : List Value).toArray below meth c H locs 0 0 Q (F0 m 83 ls []) := by
            intro n_83
            induction n_83 with
            | zero =>
              intro k_83 x5_83 hk_83 hro hL_83 H locs ls hP hS hl
              have hD : va_D A (mW cI cL cZ ad to st mt rd un kp (rw.1, T_41_1) se) := mW_D hD
              refine lv_iload hx hb dX8_order_83 (lv_at hl 0 rfl) ?_
              refine lv_iload hx hb dX8_order_85 (lv_at hl 2 rfl) ?_
              refine mv_icmp_ge (tgt := 103) hx hb dX8_order_87 (by decide) (by omega) (by omega) (fun c_7 => ?_) (fun c_7 => (by omega : False).elim)
              have e9 : T_83_2 = x5_83 := by rw [← hL_83, L_X8_order_83]
              have hq := hexit_83
              rw [e9] at hq
              exact hq _ _ ls (by rw [hro]; exact Nat.le_trans (Nat.pow_le_pow_right (by decide) (by omega : k_83 ≤ 6)) (by decide)) hP hS (lv_sub hl [1, 2, 3, 4, 5, 6] rfl)
            | succ n_83 ih_83 =>
              intro k_83 x5_83 hk_83 hro hL_83 H locs ls hP hS hl
              have hD : va_D A (mW cI cL cZ ad to st mt rd un kp (rw.1, T_41_1) se) := mW_D hD
              refine lv_iload hx hb dX8_order_83 (lv_at hl 0 rfl) ?_
              refine lv_iload hx hb dX8_order_85 (lv_at hl 2 rfl) ?_
              refine mv_icmp_ge (tgt := 103) hx hb dX8_order_87 (by decide) (by omega) (by omega) (fun c_6 => (by omega : False).elim) (fun c_6 => ?_)
              refine lv_iload hx hb dX8_order_90 (lv_at hl 1 rfl) ?_
              refine lv_bipush (v := nI 6) hx hb dX8_order_92 rfl ?_
              refine mv_imul hx hb dX8_order_94 ?_
              refine lv_istore (lv' := [(5, .int (nI (x5_83 * 6))), (6, .int (nI k_83)), (4, .int (nI (mOnes set.toNatClampNeg))), (0, .ref (ad 0)), (1, .int (nI set.toNatClampNeg)), (2, .int aa), (3, .int (nI wh.toNatClampNeg))]) hx hb dX8_order_95 hl (by decide) rfl (fun ls hl => ?_)
              refine mv_iinc (y := k_83 + 1) (lv' := [(6, .int (nI (k_83 + 1))), (5, .int (nI (x5_83 * 6))), (4, .int (nI (mOnes set.toNatClampNeg))), (0, .ref (ad 0)), (1, .int (nI set.toNatClampNeg)), (2, .int aa), (3, .int (nI wh.toNatClampNeg))]) hx hb dX8_order_97 hl (k := 1) rfl (nI_p1 _) (by decide) rfl (fun ls hl => ?_)
              refine lv_goto (tgt := 83) hx hb dX8_order_100 (by decide) ?_
              exact ih_83 (k_83 + 1) (x5_83 * 6) (by omega) (by rw [hro, Nat.pow_succ]) (by have e9 := hL_83; rw [L_X8_order_83] at e9; exact e9) _ _ ls hP hS (lv_sub hl [0, 1, 2, 3, 4, 5, 6] rfl)
          exact loop_83 (mOnes set.toNatClampNeg) 0 1 (by omega) rfl hT_83_2.symm _ _ ls hP hS (lv_sub hl [0, 1, 2, 3, 4, 5, 6] rfl)
        have loop_41 : ∀ (n_41 : Nat) (k_41 : Nat) (wrw1_41 : Nat → Int32), (k_41 + n_41 = 6) → L_X8_order_41 st n_41 k_41 wrw1_41 = T_41_1 → ∀ (H : Heap) (locs : List Loc) (ls : Array Slot), va_P D vwCl (mW cI cL cZ ad to st mt rd un kp (rw.1, wrw1_41) se) H → va_S A s.heap H locs → lv_has ls 10 [(4, .int (nI k_41)), (0, .ref (ad 0)), (1, .int (nI set.toNatClampNeg)), (2, .int aa), (3, .int (nI wh.toNatClampNeg))] → W p l e (headSpec wsX8_order rm_X8_order).room s m ([.ref (ad 0), .int set, .int aa, .int wh] : List Value).toArray below meth c H locs 0 0 Q (F0 m 41 ls []) := by
          intro n_41
          induction n_41 with
          | zero =>
            intro k_41 wrw1_41 hk_41 hL_41 H locs ls hP hS hl
            have hD : va_D A (mW cI cL cZ ad to st mt rd un kp (rw.1, wrw1_41) se) := mW_D hD
            refine lv_iload hx hb dX8_order_41 (lv_at hl 0 rfl) ?_
            refine lv_bipush (v := nI 6) hx hb dX8_order_43 rfl ?_
            refine mv_icmp_ge (tgt := 71) hx hb dX8_order_45 (by decide) (by omega) (by decide) (fun c_5 => ?_) (fun c_5 => (by omega : False).elim)
            have e9 : T_41_1 = wrw1_41 := by rw [← hL_41, L_X8_order_41]
            have hq := hexit_41
            rw [e9] at hq
            exact hq _ _ ls  hP hS (lv_sub hl [1, 2, 3, 4] rfl)
          | succ n_41 ih_41 =>
            intro k_41 wrw1_41 hk_41 hL_41 H locs ls hP hS hl
            have hD : va_D A (mW cI cL cZ ad to st mt rd un kp (rw.1, wrw1_41) se) := mW_D hD
            refine lv_iload hx hb dX8_order_41 (lv_at hl 0 rfl) ?_
            refine lv_bipush (v := nI 6) hx hb dX8_order_43 rfl ?_
            refine mv_icmp_ge (tgt := 71) hx hb dX8_order_45 (by decide) (by omega) (by decide) (fun c_4 => (by omega : False).elim) (fun c_4 => ?_)
            refine lv_aload_n hx hb dX8_order_48 rfl (lv_at hl 1 rfl) ?_
            refine va_get (D := D) (ci := 8) (v := .ref (ad 9)) (C := RX8) (T := TX8) (N := 18) hx hb hts (by decide +kernel) hown hK hP 0 rfl rfl 15 (by decide) (hts (.fieldLink RX8 35 "SummitTimeModel" "aside" "[I") (by decide +kernel)) (fun _ h9 => h9) rfl dX8_order_49 ?_
            refine lv_iload hx hb dX8_order_52 (lv_at hl 0 rfl) ?_
            refine lv_aload_n hx hb dX8_order_54 rfl (lv_at hl 1 rfl) ?_
            refine va_get (D := D) (ci := 8) (v := .ref (ad 2)) (C := RX8) (T := TX8) (N := 18) hx hb hts (by decide +kernel) hown hK hP 0 rfl rfl 1 (by decide) (hts (.fieldLink RX8 13 "SummitTimeModel" "st" "[I") (by decide +kernel)) (fun _ h9 => h9) rfl dX8_order_55 ?_
            refine lv_bipush (v := nI 60) hx hb dX8_order_58 rfl ?_
            refine lv_iload hx hb dX8_order_60 (lv_at hl 0 rfl) ?_
            refine mv_iadd hx hb dX8_order_62 ?_
            refine mv_iald (f := st) hx hb hK hP 2 0 rfl rfl (by omega) (by decide) dX8_order_63 ?_
            refine mv_iast (f := wrw1_41) hx hb hK hP hD hS 9 0 rfl rfl (by omega) (by decide) dX8_order_64 (fun H locs hP hD hS => ?_)
            have hP : va_P D vwCl (mW cI cL cZ ad to st mt rd un kp (rw.1, (upd wrw1_41 k_41 (st (60 + k_41)))) se) H := hP
            have hD : va_D A (mW cI cL cZ ad to st mt rd un kp (rw.1, (upd wrw1_41 k_41 (st (60 + k_41)))) se) := hD
            refine mv_iinc (y := k_41 + 1) (lv' := [(4, .int (nI (k_41 + 1))), (0, .ref (ad 0)), (1, .int (nI set.toNatClampNeg)), (2, .int aa), (3, .int (nI wh.toNatClampNeg))]) hx hb dX8_order_65 hl (k := 0) rfl (nI_p1 _) (by decide) rfl (fun ls hl => ?_)
            refine lv_goto (tgt := 41) hx hb dX8_order_68 (by decide) ?_
            exact ih_41 (k_41 + 1) (upd wrw1_41 k_41 (st (60 + k_41))) (by omega) (by have e9 := hL_41; rw [L_X8_order_41] at e9; exact e9) _ _ ls hP hS (lv_sub hl [0, 1, 2, 3, 4] rfl)
        exact loop_41 6 0 rw.2 (by omega) hT_41_1.symm _ _ ls hP hS (lv_sub hl [0, 1, 2, 3, 4] rfl)
      · refine lv_bipush (v := (-3)) hx hb dX8_order_35 rfl ?_
        subst hQe
        have hf : (f_X8_order to st rw set aa wh) = ((-3 : Int32), st, rw) := by rw [f_X8_order, if_neg c_1, if_neg c_2, if_pos c_3]
        exact W.iret (v := (-3 : Int32)) hx hb hr (fun t ht hW => ⟨⟨(-3 : Int32), (st, rw), rfl, ⟨(congrArg Prod.fst hf).symm, (congrArg Prod.snd hf).symm⟩, va_Pt ht hP⟩, hS.F ht⟩) hS.2.2 dX8_order_37
  · refine lv_bipush (v := (-2)) hx hb dX8_order_8 rfl ?_
    subst hQe
    have hf : (f_X8_order to st rw set aa wh) = ((-2 : Int32), st, rw) := by rw [f_X8_order, if_pos c_1]
    exact W.iret (v := (-2 : Int32)) hx hb hr (fun t ht hW => ⟨⟨(-2 : Int32), (st, rw), rfl, ⟨(congrArg Prod.fst hf).symm, (congrArg Prod.snd hf).symm⟩, va_Pt ht hP⟩, hS.F ht⟩) hS.2.2 dX8_order_10
