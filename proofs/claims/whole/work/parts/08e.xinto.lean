def txC (tx : XTx) (k : Nat) : XTx := (tx.1, tx.2.1, tx.2.2.1, tx.2.2.2.1, tx.2.2.2.2.1, k)
def L_X5_readInto_12  : Nat → Nat → XTx → XTd → Int32 × XTx × XTd
  | 0, _, gtx_12, gdr_12 => (nI gtx_12.2.2.1, gtx_12, gdr_12)
  | n_12 + 1, k_12, gtx_12, gdr_12 => (if (f_X5_readClause gtx_12 gdr_12).1 = 0 then (nI (f_X5_readClause gtx_12 gdr_12).2.1.2.2.1, (f_X5_readClause gtx_12 gdr_12).2.1, (f_X5_readClause gtx_12 gdr_12).2.2) else (if (f_X5_step (txC (f_X5_readClause gtx_12 gdr_12).2.1 (k_12 + 1))).2.2.2.2.1 = 0 then ((-1 : Int32), (f_X5_step (txC (f_X5_readClause gtx_12 gdr_12).2.1 (k_12 + 1))), (f_X5_readClause gtx_12 gdr_12).2.2) else (if (f_X5_letterAt (f_X5_step (txC (f_X5_readClause gtx_12 gdr_12).2.1 (k_12 + 1))) (f_X5_step (txC (f_X5_readClause gtx_12 gdr_12).2.1 (k_12 + 1))).2.2.1) = nI 59 then (L_X5_readInto_12 n_12 (k_12 + 1) (f_X5_step (txC (f_X5_readClause gtx_12 gdr_12).2.1 (k_12 + 1))) (f_X5_readClause gtx_12 gdr_12).2.2) else (nI (f_X5_step (txC (f_X5_readClause gtx_12 gdr_12).2.1 (k_12 + 1))).2.2.1, (f_X5_step (txC (f_X5_readClause gtx_12 gdr_12).2.1 (k_12 + 1))), (f_X5_readClause gtx_12 gdr_12).2.2))))
def f_X5_readInto (tx : XTx) (dr : XTd) : Int32 × XTx × XTd := (L_X5_readInto_12 14 0 (tx.1, tx.2.1, tx.2.2.1, 0, tx.2.2.2.2.1, 0) dr)
abbrev rm_X5_readInto : Room := { frames := 7, cells := 0, slots := 0, locals := 149 }
set_option maxHeartbeats 4000000 in
set_option maxRecDepth 100000 in
theorem c_X5_readInto (l : Launch) (D : va_G) (cI cL cZ : ClassId) (ad : Nat → Nat) (A : Nat → Prop) (adK adV : Nat → Nat) (tx : XTx) (td : XTd) (dr : XTd) (dy : XDy) (lb : (Nat → Int32)) (pn : (Nat × Nat)) (ps : XSh) (ks : XSh) (si : XSi) (kb : Int32)  (hl0 : tx.2.1 ≤ 160) (hpe : dr.2.2.2.2.2.1 ≤ 6) : Met l yX5_readInto wsX5_readInto rm_X5_readInto (va_Pc [.ref (ad 1), .ref (ad 9)] (xS D cI cL cZ A adK adV (xW cI cL cZ ad tx td dr dy lb pn ps ks si kb))) (va_Qi (fun (r : Int32) (u : XTx × XTd) => r = (f_X5_readInto tx dr).1 ∧ u = (f_X5_readInto tx dr).2) (fun (u : XTx × XTd) t => va_P D vwCl (xW cI cL cZ ad u.1 td u.2 dy lb pn ps ks si kb) t.heap) A) 0 0 A := by
  refine Met.ofW (cc := cX5_readInto) (maxL := 3) (ret := (some .int)) (by decide) rfl ?_
  intro p e s m args below meth c s₁ B hml hv
  obtain ⟨rfl, ⟨hP, hK, hD, hE⟩, hSE, hSL⟩ := hv
  have hx := B.exec
  have hb := B.bytes
  have hr := B.returns
  have hts := atoms_spec (ws := wsX5_readInto) B.pre
  have hown : s.vm.findClass RX5 = some m.cls := findClass_of_methodNamed B.named
  have hlocks := B.notSynchronized
  have hS : va_S A s.heap s.heap [] := va_S.rf
  have hl := lv_entry ([.ref (ad 1), .ref (ad 9)]) (n := 3) (Nat.le_of_ble_eq_true rfl)
  rw [lg_entry_eq]
  generalize (lg_sl ([.ref (ad 1), .ref (ad 9)]) ++ List.replicate (3 - (lg_sl ([.ref (ad 1), .ref (ad 9)])).length) Slot.unset).toArray = ls at hl ⊢
  have hl : lv_has ls 3 [(0, .ref (ad 1)), (1, .ref (ad 9))] := hl
  obtain ⟨Q, hQe⟩ : ∃ Q, Q = MQ below (va_Qi (fun (r : Int32) (u : XTx × XTd) => r = (f_X5_readInto tx dr).1 ∧ u = (f_X5_readInto tx dr).2) (fun (u : XTx × XTd) t => va_P D vwCl (xW cI cL cZ ad u.1 td u.2 dy lb pn ps ks si kb) t.heap) A) ([.ref (ad 1), .ref (ad 9)] : List Value).toArray s 0 0 A := ⟨_, rfl⟩
  show W p l e (headSpec wsX5_readInto rm_X5_readInto).room s m ([.ref (ad 1), .ref (ad 9)] : List Value).toArray below meth c s.heap [] 0 0 (MQ below (va_Qi (fun (r : Int32) (u : XTx × XTd) => r = (f_X5_readInto tx dr).1 ∧ u = (f_X5_readInto tx dr).2) (fun (u : XTx × XTd) t => va_P D vwCl (xW cI cL cZ ad u.1 td u.2 dy lb pn ps ks si kb) t.heap) A) ([.ref (ad 1), .ref (ad 9)] : List Value).toArray s 0 0 A) (F0 m 0 ls [])
  rw [← hQe]
  obtain ⟨RES, hRES⟩ : ∃ z, z = (f_X5_readInto tx dr) := ⟨_, rfl⟩
  refine lv_aload_n hx hb dX5_readInto_0 rfl (lv_at hl 0 rfl) ?_
  refine lv_iconst (v := nI 0) hx hb dX5_readInto_1 rfl ?_
  refine va_put (D := D) (ci := 5) (v := .int (nI 0)) (ty := .int) (C := RX5) (T := TX5) (N := 6) hx hb hts (by decide +kernel) tyX5 tyX5_ok nmX5 hown hK hP hD hS 1 rfl rfl 3 (by decide) (hts (.fieldLink RX5 22 "SummitTime$Text" "end" "I") (by decide +kernel)) (fun _ h9 => h9) rfl (by decide +kernel) rfl rfl (Nat.le_of_ble_eq_true rfl) dX5_readInto_2 (fun H locs hP hD hS => ?_)
  have hP : va_P D vwCl (xW cI cL cZ ad (tx.1, tx.2.1, tx.2.2.1, 0, tx.2.2.2.2.1, tx.2.2.2.2.2) td dr dy lb pn ps ks si kb) H := hP
  have hD : va_D A (xW cI cL cZ ad (tx.1, tx.2.1, tx.2.2.1, 0, tx.2.2.2.2.1, tx.2.2.2.2.2) td dr dy lb pn ps ks si kb) := hD
  refine lv_aload_n hx hb dX5_readInto_5 rfl (lv_at hl 0 rfl) ?_
  refine lv_iconst (v := nI 0) hx hb dX5_readInto_6 rfl ?_
  refine va_put (D := D) (ci := 5) (v := .int (nI 0)) (ty := .int) (C := RX5) (T := TX5) (N := 6) hx hb hts (by decide +kernel) tyX5 tyX5_ok nmX5 hown hK hP hD hS 1 rfl rfl 5 (by decide) (hts (.fieldLink RX5 19 "SummitTime$Text" "clauses" "I") (by decide +kernel)) (fun _ h9 => h9) rfl (by decide +kernel) rfl rfl (Nat.le_of_ble_eq_true rfl) dX5_readInto_7 (fun H locs hP hD hS => ?_)
  have hP : va_P D vwCl (xW cI cL cZ ad (tx.1, tx.2.1, tx.2.2.1, 0, tx.2.2.2.2.1, 0) td dr dy lb pn ps ks si kb) H := hP
  have hD : va_D A (xW cI cL cZ ad (tx.1, tx.2.1, tx.2.2.1, 0, tx.2.2.2.2.1, 0) td dr dy lb pn ps ks si kb) := hD
  refine lv_iconst (v := nI 0) hx hb dX5_readInto_10 rfl ?_
  refine lv_istore_n (lv' := [(2, .int (nI 0)), (0, .ref (ad 1)), (1, .ref (ad 9))]) hx hb dX5_readInto_11 rfl hl (by decide) rfl (fun ls hl => ?_)
  have loop_12 : ∀ (n_12 : Nat) (k_12 : Nat) (gtx_12 : XTx) (gdr_12 : XTd), (k_12 + n_12 = 14) → (gtx_12.2.1 ≤ 160) → (gtx_12.2.2.2.1 ≤ gtx_12.2.1) → (drK gdr_12) → L_X5_readInto_12 n_12 k_12 gtx_12 gdr_12 = RES → ∀ (H : Heap) (locs : List Loc) (ls : Array Slot), va_P D vwCl (xW cI cL cZ ad gtx_12 td gdr_12 dy lb pn ps ks si kb) H → va_S A s.heap H locs → lv_has ls 3 [(2, .int (nI k_12)), (0, .ref (ad 1)), (1, .ref (ad 9))] → W p l e (headSpec wsX5_readInto rm_X5_readInto).room s m ([.ref (ad 1), .ref (ad 9)] : List Value).toArray below meth c H locs 0 0 Q (F0 m 12 ls []) := by
    intro n_12
    induction n_12 with
    | zero =>
      intro k_12 gtx_12 gdr_12 hk_12 im1 im2 ir hL_12 H locs ls hP hS hl
      have hD : va_D A (xW cI cL cZ ad gtx_12 td gdr_12 dy lb pn ps ks si kb) := xW_D hD
      refine lv_iload_n hx hb dX5_readInto_12 rfl (lv_at hl 0 rfl) ?_
      refine lv_bipush (v := nI 14) hx hb dX5_readInto_13 rfl ?_
      refine mv_icmp_ge (tgt := 75) hx hb dX5_readInto_15 (by decide) (by omega) (by decide) (fun c_5 => ?_) (fun c_5 => (by omega : False).elim)
      refine lv_aload_n hx hb dX5_readInto_75 rfl (lv_at hl 1 rfl) ?_
      refine va_get (D := D) (ci := 5) (v := .int (nI gtx_12.2.2.1)) (C := RX5) (T := TX5) (N := 6) hx hb hts (by decide +kernel) hown hK hP 1 rfl rfl 2 (by decide) (hts (.fieldLink RX5 29 "SummitTime$Text" "begin" "I") (by decide +kernel)) (fun _ h9 => h9) rfl dX5_readInto_76 ?_
      subst hQe
      have hf : (f_X5_readInto tx dr) = (nI gtx_12.2.2.1, gtx_12, gdr_12) := by rw [← hRES, ← hL_12, L_X5_readInto_12]
      have hf1 : nI gtx_12.2.2.1 = (f_X5_readInto tx dr).1 := by rw [hf]
      have hf2 : (gtx_12, gdr_12) = (f_X5_readInto tx dr).2 := by rw [hf]
      exact W.iret (v := nI gtx_12.2.2.1) hx hb hr (fun t ht hW => ⟨⟨nI gtx_12.2.2.1, (gtx_12, gdr_12), rfl, ⟨hf1, hf2⟩, va_Pt ht hP⟩, hS.F ht⟩) hS.2.2 dX5_readInto_79
    | succ n_12 ih_12 =>
      intro k_12 gtx_12 gdr_12 hk_12 im1 im2 ir hL_12 H locs ls hP hS hl
      have hD : va_D A (xW cI cL cZ ad gtx_12 td gdr_12 dy lb pn ps ks si kb) := xW_D hD
      refine lv_iload_n hx hb dX5_readInto_12 rfl (lv_at hl 0 rfl) ?_
      refine lv_bipush (v := nI 14) hx hb dX5_readInto_13 rfl ?_
      refine mv_icmp_ge (tgt := 75) hx hb dX5_readInto_15 (by decide) (by omega) (by decide) (fun c_1 => (by omega : False).elim) (fun c_1 => ?_)
      refine lv_aload_n hx hb dX5_readInto_18 rfl (lv_at hl 1 rfl) ?_
      refine lv_aload_n hx hb dX5_readInto_19 rfl (lv_at hl 2 rfl) ?_
      refine va_calli (va_runV (As := [.ref (ad 9)]) (rest := []) ⟨hx, hb, hml, hown, hts⟩ (c_X5_readClause l D cI cL cZ ad A adK adV gtx_12 td gdr_12 dy lb pn ps ks si kb  im1 im2 ir) (cwV 1 hts gX5_readInto_X5_readClause rfl rfl rfl (by decide +kernel) ⟨Nat.le_of_ble_eq_true rfl, Nat.le_of_ble_eq_true rfl⟩) ⟨xS_fb, va_recv hK hP (ci := 5) (q0 := 1) rfl rfl, xS_at hP hK hD hE hSE hSL hS⟩ rfl rfl hl.1 rfl (lv_room (Nat.le_of_ble_eq_true rfl)) dX5_readInto_20 ⟨Nat.zero_le _, Nat.zero_le _⟩) hS (fun q _ h => h) (fun q h => h) (fun T_209999_6 T_20_6 t H locs ht hvm hw hB hz1 hk1 hS => ?_)
      obtain ⟨hT_209999_6, hT_20_6⟩ := hw
      rw [ht] at hB
      have hP : va_P D vwCl (xW cI cL cZ ad T_20_6.1 td T_20_6.2 dy lb pn ps ks si kb) H := hB
      have hD : va_D A (xW cI cL cZ ad T_20_6.1 td T_20_6.2 dy lb pn ps ks si kb) := xW_D hD
      refine lv_if_ne (tgt := 31) hx hb dX5_readInto_23 (by decide) (fun c_2 => ?_) (fun c_2 => ?_)
      · refine lv_aload_n hx hb dX5_readInto_31 rfl (lv_at hl 1 rfl) ?_
        refine lv_iload_n hx hb dX5_readInto_32 rfl (lv_at hl 0 rfl) ?_
        refine lv_iconst (v := nI 1) hx hb dX5_readInto_33 rfl ?_
        refine mv_iadd hx hb dX5_readInto_34 ?_
        refine va_put (D := D) (ci := 5) (v := .int (nI (k_12 + 1))) (ty := .int) (C := RX5) (T := TX5) (N := 6) hx hb hts (by decide +kernel) tyX5 tyX5_ok nmX5 hown hK hP hD hS 1 rfl rfl 5 (by decide) (hts (.fieldLink RX5 19 "SummitTime$Text" "clauses" "I") (by decide +kernel)) (fun _ h9 => h9) rfl (by decide +kernel) rfl rfl (Nat.le_of_ble_eq_true rfl) dX5_readInto_35 (fun H locs hP hD hS => ?_)
        have hP : va_P D vwCl (xW cI cL cZ ad (txC T_20_6.1 (k_12 + 1)) td T_20_6.2 dy lb pn ps ks si kb) H := hP
        have hD : va_D A (xW cI cL cZ ad (txC T_20_6.1 (k_12 + 1)) td T_20_6.2 dy lb pn ps ks si kb) := hD
        refine lv_aload_n hx hb dX5_readInto_38 rfl (lv_at hl 1 rfl) ?_
        refine va_callv (va_runV (As := []) (rest := []) ⟨hx, hb, hml, hown, hts⟩ (c_X5_step l D cI cL cZ ad A (txC T_20_6.1 (k_12 + 1)) td T_20_6.2 dy lb pn ps ks si kb  (xrE hT_20_6 im1 im2 ir).1 (xrE hT_20_6 im1 im2 ir).2.1) (cwV 0 hts gX5_readInto_X5_step rfl rfl rfl (by decide +kernel) ⟨Nat.le_of_ble_eq_true rfl, Nat.le_of_ble_eq_true rfl⟩) ⟨sR_fb, va_recv hK hP (ci := 5) (q0 := 1) rfl rfl, sR_at hP hK hD hE⟩ rfl rfl hl.1 rfl (lv_room (Nat.le_of_ble_eq_true rfl)) dX5_readInto_39 ⟨Nat.zero_le _, Nat.zero_le _⟩) hS (fun q _ h => h) (fun q h => h) (fun T_39_7 t H locs ht hvm hT_39_7 hB hz1 hk1 hS => ?_)
        rw [ht] at hB
        have hP : va_P D vwCl (xW cI cL cZ ad T_39_7 td T_20_6.2 dy lb pn ps ks si kb) H := hB
        have hD : va_D A (xW cI cL cZ ad T_39_7 td T_20_6.2 dy lb pn ps ks si kb) := xW_D hD
        refine lv_aload_n hx hb dX5_readInto_42 rfl (lv_at hl 1 rfl) ?_
        refine va_get (D := D) (ci := 5) (v := .int T_39_7.2.2.2.2.1) (C := RX5) (T := TX5) (N := 6) hx hb hts (by decide +kernel) hown hK hP 1 rfl rfl 4 (by decide) (hts (.fieldLink RX5 35 "SummitTime$Text" "sort" "I") (by decide +kernel)) (fun _ h9 => h9) rfl dX5_readInto_43 ?_
        refine lv_if_ne (tgt := 51) hx hb dX5_readInto_46 (by decide) (fun c_3 => ?_) (fun c_3 => ?_)
        · refine lv_aload_n hx hb dX5_readInto_51 rfl (lv_at hl 1 rfl) ?_
          refine lv_aload_n hx hb dX5_readInto_52 rfl (lv_at hl 1 rfl) ?_
          refine va_get (D := D) (ci := 5) (v := .int (nI T_39_7.2.2.1)) (C := RX5) (T := TX5) (N := 6) hx hb hts (by decide +kernel) hown hK hP 1 rfl rfl 2 (by decide) (hts (.fieldLink RX5 29 "SummitTime$Text" "begin" "I") (by decide +kernel)) (fun _ h9 => h9) rfl dX5_readInto_53 ?_
          refine vp_callSi (va_Run.run (va_runV (As := [.int (nI T_39_7.2.2.1)]) (rest := []) ⟨hx, hb, hml, hown, hts⟩ (c_X5_letterAt l D cI cL cZ ad A T_39_7 td T_20_6.2 dy lb pn ps ks si kb T_39_7.2.2.1 (sE1 hT_39_7 (show _ ≤ 160 from (xrE hT_20_6 im1 im2 ir).1) (show _ ≤ _ from (xrE hT_20_6 im1 im2 ir).2.1)).1 (Nat.le_trans (sE1 hT_39_7 (show _ ≤ 160 from (xrE hT_20_6 im1 im2 ir).1) (show _ ≤ _ from (xrE hT_20_6 im1 im2 ir).2.1)).2.2.1 (by decide))) (cwV 1 hts gX5_readInto_X5_letterAt rfl rfl rfl (by decide +kernel) ⟨Nat.le_of_ble_eq_true rfl, Nat.le_of_ble_eq_true rfl⟩) ⟨sR_fb, va_recv hK hP (ci := 5) (q0 := 1) rfl rfl, sR_at hP hK hD hE⟩ rfl rfl hl.1 rfl (lv_room (Nat.le_of_ble_eq_true rfl)) dX5_readInto_56 ⟨Nat.zero_le _, Nat.zero_le _⟩)) (fun r hr => ?_)
          subst hr
          refine lv_bipush (v := nI 59) hx hb dX5_readInto_59 rfl ?_
          refine lv_icmp_eq (tgt := 69) hx hb dX5_readInto_61 (by decide) (fun c_4 => ?_) (fun c_4 => ?_)
          · refine mv_iinc (y := k_12 + 1) (lv' := [(2, .int (nI (k_12 + 1))), (0, .ref (ad 1)), (1, .ref (ad 9))]) hx hb dX5_readInto_69 hl (k := 0) rfl (nI_p1 _) (by decide) rfl (fun ls hl => ?_)
            refine lv_goto (tgt := 12) hx hb dX5_readInto_72 (by decide) ?_
            exact ih_12 (k_12 + 1) T_39_7 T_20_6.2 (by omega) (sE1 hT_39_7 (show _ ≤ 160 from (xrE hT_20_6 im1 im2 ir).1) (show _ ≤ _ from (xrE hT_20_6 im1 im2 ir).2.1)).1 (sE1 hT_39_7 (show _ ≤ 160 from (xrE hT_20_6 im1 im2 ir).1) (show _ ≤ _ from (xrE hT_20_6 im1 im2 ir).2.1)).2.1 (xrE hT_20_6 im1 im2 ir).2.2 (by have e9 := hL_12; rw [L_X5_readInto_12] at e9; (try rw [← hT_209999_6] at e9); (try rw [← hT_20_6] at e9); (try rw [← hT_39_7] at e9); rw [if_neg c_2, if_neg c_3, if_pos c_4] at e9; exact e9) _ _ ls hP hS (lv_sub hl [0, 1, 2] rfl)
          · refine lv_aload_n hx hb dX5_readInto_64 rfl (lv_at hl 1 rfl) ?_
            refine va_get (D := D) (ci := 5) (v := .int (nI T_39_7.2.2.1)) (C := RX5) (T := TX5) (N := 6) hx hb hts (by decide +kernel) hown hK hP 1 rfl rfl 2 (by decide) (hts (.fieldLink RX5 29 "SummitTime$Text" "begin" "I") (by decide +kernel)) (fun _ h9 => h9) rfl dX5_readInto_65 ?_
            subst hQe
            have hf : (f_X5_readInto tx dr) = (nI T_39_7.2.2.1, T_39_7, T_20_6.2) := by rw [← hRES, ← hL_12, L_X5_readInto_12]; (try rw [← hT_209999_6]); (try rw [← hT_20_6]); (try rw [← hT_39_7]); first | done | rw [if_neg c_2, if_neg c_3, if_neg c_4]
            have hf1 : nI T_39_7.2.2.1 = (f_X5_readInto tx dr).1 := by rw [hf]
            have hf2 : (T_39_7, T_20_6.2) = (f_X5_readInto tx dr).2 := by rw [hf]
            exact W.iret (v := nI T_39_7.2.2.1) hx hb hr (fun t ht hW => ⟨⟨nI T_39_7.2.2.1, (T_39_7, T_20_6.2), rfl, ⟨hf1, hf2⟩, va_Pt ht hP⟩, hS.F ht⟩) hS.2.2 dX5_readInto_68
        · refine lv_iconst (v := (-1)) hx hb dX5_readInto_49 rfl ?_
          subst hQe
          have hf : (f_X5_readInto tx dr) = ((-1 : Int32), T_39_7, T_20_6.2) := by rw [← hRES, ← hL_12, L_X5_readInto_12]; (try rw [← hT_209999_6]); (try rw [← hT_20_6]); (try rw [← hT_39_7]); first | done | rw [if_neg c_2, if_pos c_3]
          have hf1 : (-1 : Int32) = (f_X5_readInto tx dr).1 := by rw [hf]
          have hf2 : (T_39_7, T_20_6.2) = (f_X5_readInto tx dr).2 := by rw [hf]
          exact W.iret (v := (-1 : Int32)) hx hb hr (fun t ht hW => ⟨⟨(-1 : Int32), (T_39_7, T_20_6.2), rfl, ⟨hf1, hf2⟩, va_Pt ht hP⟩, hS.F ht⟩) hS.2.2 dX5_readInto_50
      · refine lv_aload_n hx hb dX5_readInto_26 rfl (lv_at hl 1 rfl) ?_
        refine va_get (D := D) (ci := 5) (v := .int (nI T_20_6.1.2.2.1)) (C := RX5) (T := TX5) (N := 6) hx hb hts (by decide +kernel) hown hK hP 1 rfl rfl 2 (by decide) (hts (.fieldLink RX5 29 "SummitTime$Text" "begin" "I") (by decide +kernel)) (fun _ h9 => h9) rfl dX5_readInto_27 ?_
        subst hQe
        have hf : (f_X5_readInto tx dr) = (nI T_20_6.1.2.2.1, T_20_6.1, T_20_6.2) := by rw [← hRES, ← hL_12, L_X5_readInto_12]; (try rw [← hT_209999_6]); (try rw [← hT_20_6]); first | done | rw [if_pos c_2]
        have hf1 : nI T_20_6.1.2.2.1 = (f_X5_readInto tx dr).1 := by rw [hf]
        have hf2 : (T_20_6.1, T_20_6.2) = (f_X5_readInto tx dr).2 := by rw [hf]
        exact W.iret (v := nI T_20_6.1.2.2.1) hx hb hr (fun t ht hW => ⟨⟨nI T_20_6.1.2.2.1, (T_20_6.1, T_20_6.2), rfl, ⟨hf1, hf2⟩, va_Pt ht hP⟩, hS.F ht⟩) hS.2.2 dX5_readInto_30
  exact loop_12 14 0 (tx.1, tx.2.1, tx.2.2.1, 0, tx.2.2.2.2.1, 0) dr (by omega) hl0 (Nat.zero_le _) hpe (by rw [hRES, f_X5_readInto]) _ _ ls hP hS (lv_sub hl [0, 1, 2] rfl)
