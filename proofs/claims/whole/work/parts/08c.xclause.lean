def f_X5_readSeconds (tx : XTx) (dr : XTd) (wo : Int32) : Int32 × XTx × XTd := (if wo = nI 4 then (if (f_X5_readNumber tx (nI 0) ((nI dr.2.2.2.2.2.1) - (nI 1))).1 = (-1 : Int32) then (nI 0, (f_X5_readNumber tx (nI 0) ((nI dr.2.2.2.2.2.1) - (nI 1))).2, dr) else (if (f_X5_readNumber (f_X5_readNumber tx (nI 0) ((nI dr.2.2.2.2.2.1) - (nI 1))).2 (nI 0) (nI 59)).1 = (-1 : Int32) then (nI 0, (f_X5_readNumber (f_X5_readNumber tx (nI 0) ((nI dr.2.2.2.2.2.1) - (nI 1))).2 (nI 0) (nI 59)).2, dr) else (if (f_X5_readNumber (f_X5_readNumber (f_X5_readNumber tx (nI 0) ((nI dr.2.2.2.2.2.1) - (nI 1))).2 (nI 0) (nI 59)).2 (f_X5_readNumber (f_X5_readNumber tx (nI 0) ((nI dr.2.2.2.2.2.1) - (nI 1))).2 (nI 0) (nI 59)).1 (nI 59)).1 = (-1 : Int32) then (nI 0, (f_X5_readNumber (f_X5_readNumber (f_X5_readNumber tx (nI 0) ((nI dr.2.2.2.2.2.1) - (nI 1))).2 (nI 0) (nI 59)).2 (f_X5_readNumber (f_X5_readNumber tx (nI 0) ((nI dr.2.2.2.2.2.1) - (nI 1))).2 (nI 0) (nI 59)).1 (nI 59)).2, dr) else (nI 1, (f_X5_readNumber (f_X5_readNumber (f_X5_readNumber tx (nI 0) ((nI dr.2.2.2.2.2.1) - (nI 1))).2 (nI 0) (nI 59)).2 (f_X5_readNumber (f_X5_readNumber tx (nI 0) ((nI dr.2.2.2.2.2.1) - (nI 1))).2 (nI 0) (nI 59)).1 (nI 59)).2, (f_X6_deed dr (f_X5_readNumber tx (nI 0) ((nI dr.2.2.2.2.2.1) - (nI 1))).1 (f_X7_span (f_X5_readNumber (f_X5_readNumber tx (nI 0) ((nI dr.2.2.2.2.2.1) - (nI 1))).2 (nI 0) (nI 59)).1 (f_X5_readNumber (f_X5_readNumber (f_X5_readNumber tx (nI 0) ((nI dr.2.2.2.2.2.1) - (nI 1))).2 (nI 0) (nI 59)).2 (f_X5_readNumber (f_X5_readNumber tx (nI 0) ((nI dr.2.2.2.2.2.1) - (nI 1))).2 (nI 0) (nI 59)).1 (nI 59)).1)))))) else (if (f_X5_readNumber tx (nI 0) (nI 59)).1 = (-1 : Int32) then (nI 0, (f_X5_readNumber tx (nI 0) (nI 59)).2, dr) else (if (f_X5_readNumber (f_X5_readNumber tx (nI 0) (nI 59)).2 (f_X5_readNumber tx (nI 0) (nI 59)).1 (nI 59)).1 = (-1 : Int32) then (nI 0, (f_X5_readNumber (f_X5_readNumber tx (nI 0) (nI 59)).2 (f_X5_readNumber tx (nI 0) (nI 59)).1 (nI 59)).2, dr) else (nI 1, (f_X5_readNumber (f_X5_readNumber tx (nI 0) (nI 59)).2 (f_X5_readNumber tx (nI 0) (nI 59)).1 (nI 59)).2, (dr.1, dr.2.1, dr.2.2.1, dr.2.2.2.1, dr.2.2.2.2.1, dr.2.2.2.2.2.1, (dr.2.2.2.2.2.2 ||| (f_X7_span (f_X5_readNumber tx (nI 0) (nI 59)).1 (f_X5_readNumber (f_X5_readNumber tx (nI 0) (nI 59)).2 (f_X5_readNumber tx (nI 0) (nI 59)).1 (nI 59)).1)))))))
theorem f_X5_readSeconds_b (tx : XTx) (dr : XTd) (wo : Int32) : (f_X5_readSeconds tx dr wo).1 = nI 0 ∨ (f_X5_readSeconds tx dr wo).1 = nI 1 := by
  unfold f_X5_readSeconds
  split
  · split
    · exact Or.inl rfl
    · split
      · exact Or.inl rfl
      · split
        · exact Or.inl rfl
        · exact Or.inr rfl
  · split
    · exact Or.inl rfl
    · split
      · exact Or.inl rfl
      · exact Or.inr rfl
abbrev rm_X5_readSeconds : Room := { frames := 3, cells := 0, slots := 0, locals := 66 }
set_option maxHeartbeats 4000000 in
set_option maxRecDepth 100000 in
theorem c_X5_readSeconds (l : Launch) (D : va_G) (cI cL cZ : ClassId) (ad : Nat → Nat) (A : Nat → Prop) (tx : XTx) (td : XTd) (dr : XTd) (dy : XDy) (lb : (Nat → Int32)) (pn : (Nat × Nat)) (ps : XSh) (ks : XSh) (si : XSi) (kb : Int32) (wo : Int32) (hl0 : tx.2.1 ≤ 160) (he0 : tx.2.2.2.1 ≤ tx.2.1) (hpe : dr.2.2.2.2.2.1 ≤ 6) : Met l yX5_readSeconds wsX5_readSeconds rm_X5_readSeconds (va_Pc [.ref (ad 1), .ref (ad 9), .int wo] (sR D cI cL cZ A (xW cI cL cZ ad tx td dr dy lb pn ps ks si kb))) (va_Qi (fun (r : Int32) (u : XTx × XTd) => r = (f_X5_readSeconds tx dr wo).1 ∧ u = (f_X5_readSeconds tx dr wo).2) (fun (u : XTx × XTd) t => va_P D vwCl (xW cI cL cZ ad u.1 td u.2 dy lb pn ps ks si kb) t.heap) A) 0 0 A := by
  refine Met.ofW (cc := cX5_readSeconds) (maxL := 6) (ret := (some .boolean)) (by decide) rfl ?_
  intro p e s m args below meth c s₁ B hml hv
  obtain ⟨rfl, hP, hK, hD, hE⟩ := hv
  have hx := B.exec
  have hb := B.bytes
  have hr := B.returns
  have hts := atoms_spec (ws := wsX5_readSeconds) B.pre
  have hown : s.vm.findClass RX5 = some m.cls := findClass_of_methodNamed B.named
  have hlocks := B.notSynchronized
  have hS : va_S A s.heap s.heap [] := va_S.rf
  have hl := lv_entry ([.ref (ad 1), .ref (ad 9), .int wo]) (n := 6) (Nat.le_of_ble_eq_true rfl)
  rw [lg_entry_eq]
  generalize (lg_sl ([.ref (ad 1), .ref (ad 9), .int wo]) ++ List.replicate (6 - (lg_sl ([.ref (ad 1), .ref (ad 9), .int wo])).length) Slot.unset).toArray = ls at hl ⊢
  have hl : lv_has ls 6 [(0, .ref (ad 1)), (1, .ref (ad 9)), (2, .int wo)] := hl
  refine lv_iload_n hx hb dX5_readSeconds_0 rfl (lv_at hl 2 rfl) ?_
  refine lv_iconst (v := nI 4) hx hb dX5_readSeconds_1 rfl ?_
  refine lv_icmp_ne (tgt := 19) hx hb dX5_readSeconds_2 (by decide) (fun c_1 => ?_) (fun c_1 => ?_)
  · refine lv_iconst (v := nI 0) hx hb dX5_readSeconds_19 rfl ?_
    refine lv_istore_n (lv' := [(3, .int (nI 0)), (0, .ref (ad 1)), (1, .ref (ad 9)), (2, .int wo)]) hx hb dX5_readSeconds_20 rfl hl (by decide) rfl (fun ls hl => ?_)
    refine lv_iload_n hx hb dX5_readSeconds_21 rfl (lv_at hl 0 rfl) ?_
    refine lv_iconst (v := (-1)) hx hb dX5_readSeconds_22 rfl ?_
    refine lv_icmp_ne (tgt := 30) hx hb dX5_readSeconds_23 (by decide) (fun c_2 => ?_) (fun c_2 => absurd c_2 (by decide))
    refine lv_aload_n hx hb dX5_readSeconds_30 rfl (lv_at hl 1 rfl) ?_
    refine lv_iconst (v := nI 0) hx hb dX5_readSeconds_31 rfl ?_
    refine lv_bipush (v := nI 59) hx hb dX5_readSeconds_32 rfl ?_
    refine va_calli (va_runV (As := [.int (nI 0), .int (nI 59)]) (rest := []) ⟨hx, hb, hml, hown, hts⟩ (c_X5_readNumber l D cI cL cZ ad A tx td dr dy lb pn ps ks si kb (nI 0) (nI 59) hl0 he0) (cwV 2 hts gX5_readSeconds_X5_readNumber rfl rfl rfl (by decide +kernel) ⟨Nat.le_of_ble_eq_true rfl, Nat.le_of_ble_eq_true rfl⟩) ⟨sR_fb, va_recv hK hP (ci := 5) (q0 := 1) rfl rfl, sR_at hP hK hD hE⟩ rfl rfl hl.1 rfl (lv_room (Nat.le_of_ble_eq_true rfl)) dX5_readSeconds_34 ⟨Nat.zero_le _, Nat.zero_le _⟩) hS (fun q _ h => h) (fun q h => h) (fun T_349999_3 T_34_3 t H locs ht hvm hw hB hz1 hk1 hS => ?_)
    obtain ⟨hT_349999_3, hT_34_3⟩ := hw
    rw [ht] at hB
    have hP : va_P D vwCl (xW cI cL cZ ad T_34_3 td dr dy lb pn ps ks si kb) H := hB
    have hD : va_D A (xW cI cL cZ ad T_34_3 td dr dy lb pn ps ks si kb) := xW_D hD
    refine lv_istore (lv' := [(4, .int T_349999_3), (3, .int (nI 0)), (0, .ref (ad 1)), (1, .ref (ad 9)), (2, .int wo)]) hx hb dX5_readSeconds_37 hl (by decide) rfl (fun ls hl => ?_)
    refine lv_iload hx hb dX5_readSeconds_39 (lv_at hl 0 rfl) ?_
    refine lv_iconst (v := (-1)) hx hb dX5_readSeconds_41 rfl ?_
    refine lv_icmp_ne (tgt := 49) hx hb dX5_readSeconds_42 (by decide) (fun c_3 => ?_) (fun c_3 => ?_)
    · refine lv_aload_n hx hb dX5_readSeconds_49 rfl (lv_at hl 2 rfl) ?_
      refine lv_iload hx hb dX5_readSeconds_50 (lv_at hl 0 rfl) ?_
      refine lv_bipush (v := nI 59) hx hb dX5_readSeconds_52 rfl ?_
      refine va_calli (va_runV (As := [.int T_349999_3, .int (nI 59)]) (rest := []) ⟨hx, hb, hml, hown, hts⟩ (c_X5_readNumber l D cI cL cZ ad A T_34_3 td dr dy lb pn ps ks si kb T_349999_3 (nI 59) (rnE hT_34_3 hl0 he0).1 (rnE hT_34_3 hl0 he0).2) (cwV 2 hts gX5_readSeconds_X5_readNumber rfl rfl rfl (by decide +kernel) ⟨Nat.le_of_ble_eq_true rfl, Nat.le_of_ble_eq_true rfl⟩) ⟨sR_fb, va_recv hK hP (ci := 5) (q0 := 1) rfl rfl, sR_at hP hK hD hE⟩ rfl rfl hl.1 rfl (lv_room (Nat.le_of_ble_eq_true rfl)) dX5_readSeconds_54 ⟨Nat.zero_le _, Nat.zero_le _⟩) hS (fun q _ h => h) (fun q h => h) (fun T_549999_5 T_54_5 t H locs ht hvm hw hB hz1 hk1 hS => ?_)
      obtain ⟨hT_549999_5, hT_54_5⟩ := hw
      rw [ht] at hB
      have hP : va_P D vwCl (xW cI cL cZ ad T_54_5 td dr dy lb pn ps ks si kb) H := hB
      have hD : va_D A (xW cI cL cZ ad T_54_5 td dr dy lb pn ps ks si kb) := xW_D hD
      refine lv_istore (lv' := [(5, .int T_549999_5), (4, .int T_349999_3), (3, .int (nI 0)), (0, .ref (ad 1)), (1, .ref (ad 9)), (2, .int wo)]) hx hb dX5_readSeconds_57 hl (by decide) rfl (fun ls hl => ?_)
      refine lv_iload hx hb dX5_readSeconds_59 (lv_at hl 0 rfl) ?_
      refine lv_iconst (v := (-1)) hx hb dX5_readSeconds_61 rfl ?_
      refine lv_icmp_ne (tgt := 67) hx hb dX5_readSeconds_62 (by decide) (fun c_4 => ?_) (fun c_4 => ?_)
      · refine lv_iload_n hx hb dX5_readSeconds_67 rfl (lv_at hl 5 rfl) ?_
        refine lv_iconst (v := nI 4) hx hb dX5_readSeconds_68 rfl ?_
        refine lv_icmp_ne (tgt := 87) hx hb dX5_readSeconds_69 (by decide) (fun c_5 => ?_) (fun c_5 => absurd c_5 c_1)
        refine lv_aload_n hx hb dX5_readSeconds_87 rfl (lv_at hl 4 rfl) ?_
        refine lv_dup hx hb dX5_readSeconds_88 rfl ?_
        refine va_getN (D := D) (ci := 6) (v := .long dr.2.2.2.2.2.2) (C := RX6) (T := TX6) (N := 7) hx hb hts (by decide +kernel) hown hK hP 9 rfl rfl 6 (by decide) (va_Nw.use rfl hE.2.2.2.2.2.2.2.2.1) (fun _ h9 => h9) rfl dX5_readSeconds_89 ?_
        refine lv_iload hx hb dX5_readSeconds_92 (lv_at hl 1 rfl) ?_
        refine lv_iload hx hb dX5_readSeconds_94 (lv_at hl 0 rfl) ?_
        refine vp_callSl (va_Run.run (va_runSN (As := [.int T_349999_3, .int T_549999_5]) (rest := [.long dr.2.2.2.2.2.2, .ref (ad 9)]) ⟨hx, hb, hml, hown, hts⟩ (c_X7_span l T_349999_3 T_549999_5 ) ⟨va_cnB 2 hts gX5_readSeconds_X7_span_n77 rfl rfl rfl hE.2.2.2.2.2.2.2.2.2.2.1 (hts (.initialized RX7) (by decide +kernel)) (by decide +kernel) ⟨Nat.le_of_ble_eq_true rfl, Nat.le_of_ble_eq_true rfl⟩, hts (.static yX7_span) (by decide +kernel), trivial⟩ ⟨pR_fb, pR_at⟩ rfl rfl hl.1 rfl (lv_room (Nat.le_of_ble_eq_true rfl)) dX5_readSeconds_96 ⟨Nat.zero_le _, Nat.zero_le _⟩)) (fun r hr => ?_)
        subst hr
        refine lv_lor hx hb dX5_readSeconds_99 ?_
        refine va_putN (D := D) (ci := 6) (v := .long (dr.2.2.2.2.2.2 ||| (f_X7_span T_349999_3 T_549999_5))) (ty := .long) (C := RX6) (T := TX6) (N := 7) hx hb hts (by decide +kernel) tyX6 tyX6_ok nmX6 hown hK hP hD hS 9 rfl rfl 6 (by decide) (va_Nw.use rfl hE.2.2.2.2.2.2.2.2.1) (fun _ h9 => h9) rfl (by decide +kernel) rfl rfl (Nat.le_of_ble_eq_true rfl) dX5_readSeconds_100 (fun H locs hP hD hS => ?_)
        have hP : va_P D vwCl (xW cI cL cZ ad T_54_5 td (dr.1, dr.2.1, dr.2.2.1, dr.2.2.2.1, dr.2.2.2.2.1, dr.2.2.2.2.2.1, (dr.2.2.2.2.2.2 ||| (f_X7_span T_349999_3 T_549999_5))) dy lb pn ps ks si kb) H := hP
        have hD : va_D A (xW cI cL cZ ad T_54_5 td (dr.1, dr.2.1, dr.2.2.1, dr.2.2.2.1, dr.2.2.2.2.1, dr.2.2.2.2.2.1, (dr.2.2.2.2.2.2 ||| (f_X7_span T_349999_3 T_549999_5))) dy lb pn ps ks si kb) := hD
        refine lv_iconst (v := nI 1) hx hb dX5_readSeconds_103 rfl ?_
        have hf : (f_X5_readSeconds tx dr wo) = (nI 1, T_54_5, (dr.1, dr.2.1, dr.2.2.1, dr.2.2.2.1, dr.2.2.2.2.1, dr.2.2.2.2.2.1, (dr.2.2.2.2.2.2 ||| (f_X7_span T_349999_3 T_549999_5)))) := by rw [f_X5_readSeconds]; (try rw [← hT_349999_3]); (try rw [← hT_34_3]); (try rw [← hT_549999_5]); (try rw [← hT_54_5]); first | done | rw [if_neg c_1, if_neg c_3, if_neg c_4]
        have hf1 : nI 1 = (f_X5_readSeconds tx dr wo).1 := by rw [hf]
        have hf2 : (T_54_5, (dr.1, dr.2.1, dr.2.2.1, dr.2.2.2.1, dr.2.2.2.2.1, dr.2.2.2.2.2.1, (dr.2.2.2.2.2.2 ||| (f_X7_span T_349999_3 T_549999_5)))) = (f_X5_readSeconds tx dr wo).2 := by rw [hf]
        exact W.zret (v := nI 1) (ty := .boolean) hx hb hr rfl (fun t ht hW => ⟨⟨nI 1, (T_54_5, (dr.1, dr.2.1, dr.2.2.1, dr.2.2.2.1, dr.2.2.2.2.1, dr.2.2.2.2.2.1, (dr.2.2.2.2.2.2 ||| (f_X7_span T_349999_3 T_549999_5)))), rfl, ⟨hf1, hf2⟩, va_Pt ht hP⟩, hS.F ht⟩) hS.2.2 dX5_readSeconds_104
      · refine lv_iconst (v := nI 0) hx hb dX5_readSeconds_65 rfl ?_
        have hf : (f_X5_readSeconds tx dr wo) = (nI 0, T_54_5, dr) := by rw [f_X5_readSeconds]; (try rw [← hT_349999_3]); (try rw [← hT_34_3]); (try rw [← hT_549999_5]); (try rw [← hT_54_5]); first | done | rw [if_neg c_1, if_neg c_3, if_pos c_4]
        have hf1 : nI 0 = (f_X5_readSeconds tx dr wo).1 := by rw [hf]
        have hf2 : (T_54_5, dr) = (f_X5_readSeconds tx dr wo).2 := by rw [hf]
        exact W.zret (v := nI 0) (ty := .boolean) hx hb hr rfl (fun t ht hW => ⟨⟨nI 0, (T_54_5, dr), rfl, ⟨hf1, hf2⟩, va_Pt ht hP⟩, hS.F ht⟩) hS.2.2 dX5_readSeconds_66
    · refine lv_iconst (v := (-1)) hx hb dX5_readSeconds_45 rfl ?_
      refine lv_goto (tgt := 57) hx hb dX5_readSeconds_46 (by decide) ?_
      refine lv_istore (lv' := [(5, .int (-1 : Int32)), (4, .int T_349999_3), (3, .int (nI 0)), (0, .ref (ad 1)), (1, .ref (ad 9)), (2, .int wo)]) hx hb dX5_readSeconds_57 hl (by decide) rfl (fun ls hl => ?_)
      refine lv_iload hx hb dX5_readSeconds_59 (lv_at hl 0 rfl) ?_
      refine lv_iconst (v := (-1)) hx hb dX5_readSeconds_61 rfl ?_
      refine lv_icmp_ne (tgt := 67) hx hb dX5_readSeconds_62 (by decide) (fun c_6 => absurd c_6 (by decide)) (fun c_6 => ?_)
      refine lv_iconst (v := nI 0) hx hb dX5_readSeconds_65 rfl ?_
      have hf : (f_X5_readSeconds tx dr wo) = (nI 0, T_34_3, dr) := by rw [f_X5_readSeconds]; (try rw [← hT_349999_3]); (try rw [← hT_34_3]); first | done | rw [if_neg c_1, if_pos c_3]
      have hf1 : nI 0 = (f_X5_readSeconds tx dr wo).1 := by rw [hf]
      have hf2 : (T_34_3, dr) = (f_X5_readSeconds tx dr wo).2 := by rw [hf]
      exact W.zret (v := nI 0) (ty := .boolean) hx hb hr rfl (fun t ht hW => ⟨⟨nI 0, (T_34_3, dr), rfl, ⟨hf1, hf2⟩, va_Pt ht hP⟩, hS.F ht⟩) hS.2.2 dX5_readSeconds_66
  · refine lv_aload_n hx hb dX5_readSeconds_5 rfl (lv_at hl 0 rfl) ?_
    refine lv_iconst (v := nI 0) hx hb dX5_readSeconds_6 rfl ?_
    refine lv_aload_n hx hb dX5_readSeconds_7 rfl (lv_at hl 1 rfl) ?_
    refine va_getN (D := D) (ci := 6) (v := .int (nI dr.2.2.2.2.2.1)) (C := RX6) (T := TX6) (N := 7) hx hb hts (by decide +kernel) hown hK hP 9 rfl rfl 5 (by decide) (va_Nw.use rfl hE.2.2.2.2.2.2.2.2.2.1) (fun _ h9 => h9) rfl dX5_readSeconds_8 ?_
    refine lv_iconst (v := nI 1) hx hb dX5_readSeconds_11 rfl ?_
    refine lv_isub hx hb dX5_readSeconds_12 ?_
    refine va_calli (va_runV (As := [.int (nI 0), .int ((nI dr.2.2.2.2.2.1) - (nI 1))]) (rest := []) ⟨hx, hb, hml, hown, hts⟩ (c_X5_readNumber l D cI cL cZ ad A tx td dr dy lb pn ps ks si kb (nI 0) ((nI dr.2.2.2.2.2.1) - (nI 1)) hl0 he0) (cwV 2 hts gX5_readSeconds_X5_readNumber rfl rfl rfl (by decide +kernel) ⟨Nat.le_of_ble_eq_true rfl, Nat.le_of_ble_eq_true rfl⟩) ⟨sR_fb, va_recv hK hP (ci := 5) (q0 := 1) rfl rfl, sR_at hP hK hD hE⟩ rfl rfl hl.1 rfl (lv_room (Nat.le_of_ble_eq_true rfl)) dX5_readSeconds_13 ⟨Nat.zero_le _, Nat.zero_le _⟩) hS (fun q _ h => h) (fun q h => h) (fun T_139999_6 T_13_6 t H locs ht hvm hw hB hz1 hk1 hS => ?_)
    obtain ⟨hT_139999_6, hT_13_6⟩ := hw
    rw [ht] at hB
    have hP : va_P D vwCl (xW cI cL cZ ad T_13_6 td dr dy lb pn ps ks si kb) H := hB
    have hD : va_D A (xW cI cL cZ ad T_13_6 td dr dy lb pn ps ks si kb) := xW_D hD
    refine lv_goto (tgt := 20) hx hb dX5_readSeconds_16 (by decide) ?_
    refine lv_istore_n (lv' := [(3, .int T_139999_6), (0, .ref (ad 1)), (1, .ref (ad 9)), (2, .int wo)]) hx hb dX5_readSeconds_20 rfl hl (by decide) rfl (fun ls hl => ?_)
    refine lv_iload_n hx hb dX5_readSeconds_21 rfl (lv_at hl 0 rfl) ?_
    refine lv_iconst (v := (-1)) hx hb dX5_readSeconds_22 rfl ?_
    refine lv_icmp_ne (tgt := 30) hx hb dX5_readSeconds_23 (by decide) (fun c_7 => ?_) (fun c_7 => ?_)
    · refine lv_aload_n hx hb dX5_readSeconds_30 rfl (lv_at hl 1 rfl) ?_
      refine lv_iconst (v := nI 0) hx hb dX5_readSeconds_31 rfl ?_
      refine lv_bipush (v := nI 59) hx hb dX5_readSeconds_32 rfl ?_
      refine va_calli (va_runV (As := [.int (nI 0), .int (nI 59)]) (rest := []) ⟨hx, hb, hml, hown, hts⟩ (c_X5_readNumber l D cI cL cZ ad A T_13_6 td dr dy lb pn ps ks si kb (nI 0) (nI 59) (rnE hT_13_6 hl0 he0).1 (rnE hT_13_6 hl0 he0).2) (cwV 2 hts gX5_readSeconds_X5_readNumber rfl rfl rfl (by decide +kernel) ⟨Nat.le_of_ble_eq_true rfl, Nat.le_of_ble_eq_true rfl⟩) ⟨sR_fb, va_recv hK hP (ci := 5) (q0 := 1) rfl rfl, sR_at hP hK hD hE⟩ rfl rfl hl.1 rfl (lv_room (Nat.le_of_ble_eq_true rfl)) dX5_readSeconds_34 ⟨Nat.zero_le _, Nat.zero_le _⟩) hS (fun q _ h => h) (fun q h => h) (fun T_349999_8 T_34_8 t H locs ht hvm hw hB hz1 hk1 hS => ?_)
      obtain ⟨hT_349999_8, hT_34_8⟩ := hw
      rw [ht] at hB
      have hP : va_P D vwCl (xW cI cL cZ ad T_34_8 td dr dy lb pn ps ks si kb) H := hB
      have hD : va_D A (xW cI cL cZ ad T_34_8 td dr dy lb pn ps ks si kb) := xW_D hD
      refine lv_istore (lv' := [(4, .int T_349999_8), (3, .int T_139999_6), (0, .ref (ad 1)), (1, .ref (ad 9)), (2, .int wo)]) hx hb dX5_readSeconds_37 hl (by decide) rfl (fun ls hl => ?_)
      refine lv_iload hx hb dX5_readSeconds_39 (lv_at hl 0 rfl) ?_
      refine lv_iconst (v := (-1)) hx hb dX5_readSeconds_41 rfl ?_
      refine lv_icmp_ne (tgt := 49) hx hb dX5_readSeconds_42 (by decide) (fun c_8 => ?_) (fun c_8 => ?_)
      · refine lv_aload_n hx hb dX5_readSeconds_49 rfl (lv_at hl 2 rfl) ?_
        refine lv_iload hx hb dX5_readSeconds_50 (lv_at hl 0 rfl) ?_
        refine lv_bipush (v := nI 59) hx hb dX5_readSeconds_52 rfl ?_
        refine va_calli (va_runV (As := [.int T_349999_8, .int (nI 59)]) (rest := []) ⟨hx, hb, hml, hown, hts⟩ (c_X5_readNumber l D cI cL cZ ad A T_34_8 td dr dy lb pn ps ks si kb T_349999_8 (nI 59) (rnE hT_34_8 (rnE hT_13_6 hl0 he0).1 (rnE hT_13_6 hl0 he0).2).1 (rnE hT_34_8 (rnE hT_13_6 hl0 he0).1 (rnE hT_13_6 hl0 he0).2).2) (cwV 2 hts gX5_readSeconds_X5_readNumber rfl rfl rfl (by decide +kernel) ⟨Nat.le_of_ble_eq_true rfl, Nat.le_of_ble_eq_true rfl⟩) ⟨sR_fb, va_recv hK hP (ci := 5) (q0 := 1) rfl rfl, sR_at hP hK hD hE⟩ rfl rfl hl.1 rfl (lv_room (Nat.le_of_ble_eq_true rfl)) dX5_readSeconds_54 ⟨Nat.zero_le _, Nat.zero_le _⟩) hS (fun q _ h => h) (fun q h => h) (fun T_549999_10 T_54_10 t H locs ht hvm hw hB hz1 hk1 hS => ?_)
        obtain ⟨hT_549999_10, hT_54_10⟩ := hw
        rw [ht] at hB
        have hP : va_P D vwCl (xW cI cL cZ ad T_54_10 td dr dy lb pn ps ks si kb) H := hB
        have hD : va_D A (xW cI cL cZ ad T_54_10 td dr dy lb pn ps ks si kb) := xW_D hD
        refine lv_istore (lv' := [(5, .int T_549999_10), (4, .int T_349999_8), (3, .int T_139999_6), (0, .ref (ad 1)), (1, .ref (ad 9)), (2, .int wo)]) hx hb dX5_readSeconds_57 hl (by decide) rfl (fun ls hl => ?_)
        refine lv_iload hx hb dX5_readSeconds_59 (lv_at hl 0 rfl) ?_
        refine lv_iconst (v := (-1)) hx hb dX5_readSeconds_61 rfl ?_
        refine lv_icmp_ne (tgt := 67) hx hb dX5_readSeconds_62 (by decide) (fun c_9 => ?_) (fun c_9 => ?_)
        · refine lv_iload_n hx hb dX5_readSeconds_67 rfl (lv_at hl 5 rfl) ?_
          refine lv_iconst (v := nI 4) hx hb dX5_readSeconds_68 rfl ?_
          refine lv_icmp_ne (tgt := 87) hx hb dX5_readSeconds_69 (by decide) (fun c_10 => absurd c_1 c_10) (fun c_10 => ?_)
          refine lv_aload_n hx hb dX5_readSeconds_72 rfl (lv_at hl 4 rfl) ?_
          refine lv_iload_n hx hb dX5_readSeconds_73 rfl (lv_at hl 2 rfl) ?_
          refine lv_iload hx hb dX5_readSeconds_74 (lv_at hl 1 rfl) ?_
          refine lv_iload hx hb dX5_readSeconds_76 (lv_at hl 0 rfl) ?_
          refine vp_callSl (va_Run.run (va_runSN (As := [.int T_349999_8, .int T_549999_10]) (rest := [.int T_139999_6, .ref (ad 9)]) ⟨hx, hb, hml, hown, hts⟩ (c_X7_span l T_349999_8 T_549999_10 ) ⟨va_cnB 2 hts gX5_readSeconds_X7_span_n77 rfl rfl rfl hE.2.2.2.2.2.2.2.2.2.2.1 (hts (.initialized RX7) (by decide +kernel)) (by decide +kernel) ⟨Nat.le_of_ble_eq_true rfl, Nat.le_of_ble_eq_true rfl⟩, hts (.static yX7_span) (by decide +kernel), trivial⟩ ⟨pR_fb, pR_at⟩ rfl rfl hl.1 rfl (lv_room (Nat.le_of_ble_eq_true rfl)) dX5_readSeconds_78 ⟨Nat.zero_le _, Nat.zero_le _⟩)) (fun r hr => ?_)
          subst hr
          refine va_callv (va_runV (As := [.int T_139999_6, .long (f_X7_span T_349999_8 T_549999_10)]) (rest := []) ⟨hx, hb, hml, hown, hts⟩ (c_X6_deed l D cI cL cZ ad A T_54_10 td dr dy lb pn ps ks si kb T_139999_6 (f_X7_span T_349999_8 T_549999_10) ) (cwV 2 hts gX5_readSeconds_X6_deed rfl rfl rfl (by decide +kernel) ⟨Nat.le_of_ble_eq_true rfl, Nat.le_of_ble_eq_true rfl⟩) ⟨sR_fb, va_recv hK hP (ci := 6) (q0 := 9) rfl rfl, sR_at hP hK hD hE⟩ rfl rfl hl.1 rfl (lv_room (Nat.le_of_ble_eq_true rfl)) dX5_readSeconds_81 ⟨Nat.zero_le _, Nat.zero_le _⟩) hS (fun q _ h => h) (fun q h => h) (fun T_81_12 t H locs ht hvm hT_81_12 hB hz1 hk1 hS => ?_)
          rw [ht] at hB
          have hP : va_P D vwCl (xW cI cL cZ ad T_54_10 td T_81_12 dy lb pn ps ks si kb) H := hB
          have hD : va_D A (xW cI cL cZ ad T_54_10 td T_81_12 dy lb pn ps ks si kb) := xW_D hD
          refine lv_goto (tgt := 103) hx hb dX5_readSeconds_84 (by decide) ?_
          refine lv_iconst (v := nI 1) hx hb dX5_readSeconds_103 rfl ?_
          have hf : (f_X5_readSeconds tx dr wo) = (nI 1, T_54_10, T_81_12) := by rw [f_X5_readSeconds]; (try rw [← hT_139999_6]); (try rw [← hT_13_6]); (try rw [← hT_349999_8]); (try rw [← hT_34_8]); (try rw [← hT_549999_10]); (try rw [← hT_54_10]); (try rw [← hT_81_12]); first | done | rw [if_pos c_1, if_neg c_7, if_neg c_8, if_neg c_9]
          have hf1 : nI 1 = (f_X5_readSeconds tx dr wo).1 := by rw [hf]
          have hf2 : (T_54_10, T_81_12) = (f_X5_readSeconds tx dr wo).2 := by rw [hf]
          exact W.zret (v := nI 1) (ty := .boolean) hx hb hr rfl (fun t ht hW => ⟨⟨nI 1, (T_54_10, T_81_12), rfl, ⟨hf1, hf2⟩, va_Pt ht hP⟩, hS.F ht⟩) hS.2.2 dX5_readSeconds_104
        · refine lv_iconst (v := nI 0) hx hb dX5_readSeconds_65 rfl ?_
          have hf : (f_X5_readSeconds tx dr wo) = (nI 0, T_54_10, dr) := by rw [f_X5_readSeconds]; (try rw [← hT_139999_6]); (try rw [← hT_13_6]); (try rw [← hT_349999_8]); (try rw [← hT_34_8]); (try rw [← hT_549999_10]); (try rw [← hT_54_10]); first | done | rw [if_pos c_1, if_neg c_7, if_neg c_8, if_pos c_9]
          have hf1 : nI 0 = (f_X5_readSeconds tx dr wo).1 := by rw [hf]
          have hf2 : (T_54_10, dr) = (f_X5_readSeconds tx dr wo).2 := by rw [hf]
          exact W.zret (v := nI 0) (ty := .boolean) hx hb hr rfl (fun t ht hW => ⟨⟨nI 0, (T_54_10, dr), rfl, ⟨hf1, hf2⟩, va_Pt ht hP⟩, hS.F ht⟩) hS.2.2 dX5_readSeconds_66
      · refine lv_iconst (v := (-1)) hx hb dX5_readSeconds_45 rfl ?_
        refine lv_goto (tgt := 57) hx hb dX5_readSeconds_46 (by decide) ?_
        refine lv_istore (lv' := [(5, .int (-1 : Int32)), (4, .int T_349999_8), (3, .int T_139999_6), (0, .ref (ad 1)), (1, .ref (ad 9)), (2, .int wo)]) hx hb dX5_readSeconds_57 hl (by decide) rfl (fun ls hl => ?_)
        refine lv_iload hx hb dX5_readSeconds_59 (lv_at hl 0 rfl) ?_
        refine lv_iconst (v := (-1)) hx hb dX5_readSeconds_61 rfl ?_
        refine lv_icmp_ne (tgt := 67) hx hb dX5_readSeconds_62 (by decide) (fun c_11 => absurd c_11 (by decide)) (fun c_11 => ?_)
        refine lv_iconst (v := nI 0) hx hb dX5_readSeconds_65 rfl ?_
        have hf : (f_X5_readSeconds tx dr wo) = (nI 0, T_34_8, dr) := by rw [f_X5_readSeconds]; (try rw [← hT_139999_6]); (try rw [← hT_13_6]); (try rw [← hT_349999_8]); (try rw [← hT_34_8]); first | done | rw [if_pos c_1, if_neg c_7, if_pos c_8]
        have hf1 : nI 0 = (f_X5_readSeconds tx dr wo).1 := by rw [hf]
        have hf2 : (T_34_8, dr) = (f_X5_readSeconds tx dr wo).2 := by rw [hf]
        exact W.zret (v := nI 0) (ty := .boolean) hx hb hr rfl (fun t ht hW => ⟨⟨nI 0, (T_34_8, dr), rfl, ⟨hf1, hf2⟩, va_Pt ht hP⟩, hS.F ht⟩) hS.2.2 dX5_readSeconds_66
    · refine lv_iconst (v := (-1)) hx hb dX5_readSeconds_26 rfl ?_
      refine lv_goto (tgt := 37) hx hb dX5_readSeconds_27 (by decide) ?_
      refine lv_istore (lv' := [(4, .int (-1 : Int32)), (3, .int T_139999_6), (0, .ref (ad 1)), (1, .ref (ad 9)), (2, .int wo)]) hx hb dX5_readSeconds_37 hl (by decide) rfl (fun ls hl => ?_)
      refine lv_iload hx hb dX5_readSeconds_39 (lv_at hl 0 rfl) ?_
      refine lv_iconst (v := (-1)) hx hb dX5_readSeconds_41 rfl ?_
      refine mv_phi (v := (-1 : Int32)) (pcj := 57) (ls := ls) (rest' := []) ?_ (fun J_13 => ?_)
      · refine lv_istore (lv' := [(5, .int (-1 : Int32)), (4, .int (-1 : Int32)), (3, .int T_139999_6), (0, .ref (ad 1)), (1, .ref (ad 9)), (2, .int wo)]) hx hb dX5_readSeconds_57 hl (by decide) rfl (fun ls hl => ?_)
        refine lv_iload hx hb dX5_readSeconds_59 (lv_at hl 0 rfl) ?_
        refine lv_iconst (v := (-1)) hx hb dX5_readSeconds_61 rfl ?_
        refine lv_icmp_ne (tgt := 67) hx hb dX5_readSeconds_62 (by decide) (fun c_12 => absurd c_12 (by decide)) (fun c_12 => ?_)
        refine lv_iconst (v := nI 0) hx hb dX5_readSeconds_65 rfl ?_
        have hf : (f_X5_readSeconds tx dr wo) = (nI 0, T_13_6, dr) := by rw [f_X5_readSeconds]; (try rw [← hT_139999_6]); (try rw [← hT_13_6]); first | done | rw [if_pos c_1, if_pos c_7]
        have hf1 : nI 0 = (f_X5_readSeconds tx dr wo).1 := by rw [hf]
        have hf2 : (T_13_6, dr) = (f_X5_readSeconds tx dr wo).2 := by rw [hf]
        exact W.zret (v := nI 0) (ty := .boolean) hx hb hr rfl (fun t ht hW => ⟨⟨nI 0, (T_13_6, dr), rfl, ⟨hf1, hf2⟩, va_Pt ht hP⟩, hS.F ht⟩) hS.2.2 dX5_readSeconds_66
      · refine lv_icmp_ne (tgt := 49) hx hb dX5_readSeconds_42 (by decide) (fun c_14 => absurd c_14 (by decide)) (fun c_14 => ?_)
        refine lv_iconst (v := (-1)) hx hb dX5_readSeconds_45 rfl ?_
        refine lv_goto (tgt := 57) hx hb dX5_readSeconds_46 (by decide) ?_
        exact J_13 _ rfl
def L_X5_isAtHand_20 (tx : XTx) (ix : Nat) : Nat → Nat → Int32
  | 0, _ => nI 1
  | n_20 + 1, k_20 => (if (f_X5_letterAt tx (tx.2.2.1 + k_20)) = ((bytS.getD ix []).getD k_20 0) then (L_X5_isAtHand_20 tx ix n_20 (k_20 + 1)) else nI 0)
def f_X5_isAtHand (tx : XTx) (ix : Nat) : Int32 := (if ((nI tx.2.2.2.1) - (nI tx.2.2.1)) = nI (lenS.getD ix 0) then (L_X5_isAtHand_20 tx ix (lenS.getD ix 0) 0) else nI 0)
theorem iah_b (tx : XTx) (ix : Nat) : ∀ n k : Nat, L_X5_isAtHand_20 tx ix n k = nI 0 ∨ L_X5_isAtHand_20 tx ix n k = nI 1
  | 0, _ => Or.inr rfl
  | n + 1, k => by
    rw [L_X5_isAtHand_20]
    split
    · exact iah_b tx ix n (k + 1)
    · exact Or.inl rfl
theorem f_X5_isAtHand_b (tx : XTx) (ix : Nat) : (f_X5_isAtHand tx ix) = nI 0 ∨ (f_X5_isAtHand tx ix) = nI 1 := by
  unfold f_X5_isAtHand
  split
  · exact iah_b _ _ _ _
  · exact Or.inl rfl
abbrev rm_X5_isAtHand : Room := { frames := 4, cells := 0, slots := 0, locals := 85 }
set_option maxHeartbeats 4000000 in
set_option maxRecDepth 100000 in
theorem c_X5_isAtHand (l : Launch) (D : va_G) (cI cL cZ : ClassId) (ad : Nat → Nat) (A : Nat → Prop) (adK adV : Nat → Nat) (tx : XTx) (td : XTd) (dr : XTd) (dy : XDy) (lb : (Nat → Int32)) (pn : (Nat × Nat)) (ps : XSh) (ks : XSh) (si : XSi) (kb : Int32) (ix : Nat) (hix : ix < 8) (hl0 : tx.2.1 ≤ 160) (hb0 : tx.2.2.1 ≤ 160) : Met l yX5_isAtHand wsX5_isAtHand rm_X5_isAtHand (va_Pc [.ref (ad 1), .ref (adK ix)] (xS D cI cL cZ A adK adV (xW cI cL cZ ad tx td dr dy lb pn ps ks si kb))) (vp_Si (fun r => r = (f_X5_isAtHand tx ix))) 0 0 (fun _ => False) := by
  refine Met.ofW (cc := cX5_isAtHand) (maxL := 3) (ret := (some .boolean)) (by decide) rfl ?_
  intro p e s m args below meth c s₁ B hml hv
  obtain ⟨rfl, ⟨hP, hK, hD, hE⟩, hSE, hSL⟩ := hv
  have hx := B.exec
  have hb := B.bytes
  have hr := B.returns
  have hts := atoms_spec (ws := wsX5_isAtHand) B.pre
  have hown : s.vm.findClass RX5 = some m.cls := findClass_of_methodNamed B.named
  have hlocks := B.notSynchronized
  have hS : va_S A s.heap s.heap [] := va_S.rf
  have hl := lv_entry ([.ref (ad 1), .ref (adK ix)]) (n := 3) (Nat.le_of_ble_eq_true rfl)
  rw [lg_entry_eq]
  generalize (lg_sl ([.ref (ad 1), .ref (adK ix)]) ++ List.replicate (3 - (lg_sl ([.ref (ad 1), .ref (adK ix)])).length) Slot.unset).toArray = ls at hl ⊢
  have hl : lv_has ls 3 [(0, .ref (ad 1)), (1, .ref (adK ix))] := hl
  have hsl := sS_all ix hix
  have hsl1 := hsl.1
  have hsl2 := hsl.2.1
  obtain ⟨Q, hQe⟩ : ∃ Q, Q = MQ below (vp_Si (fun r => r = (f_X5_isAtHand tx ix))) ([.ref (ad 1), .ref (adK ix)] : List Value).toArray s 0 0 (fun _ => False) := ⟨_, rfl⟩
  show W p l e (headSpec wsX5_isAtHand rm_X5_isAtHand).room s m ([.ref (ad 1), .ref (adK ix)] : List Value).toArray below meth c s.heap [] 0 0 (MQ below (vp_Si (fun r => r = (f_X5_isAtHand tx ix))) ([.ref (ad 1), .ref (adK ix)] : List Value).toArray s 0 0 (fun _ => False)) (F0 m 0 ls [])
  rw [← hQe]
  obtain ⟨RES, hRES⟩ : ∃ z, z = (f_X5_isAtHand tx ix) := ⟨_, rfl⟩
  refine lv_aload_n hx hb dX5_isAtHand_0 rfl (lv_at hl 0 rfl) ?_
  refine va_get (D := D) (ci := 5) (v := .int (nI tx.2.2.2.1)) (C := RX5) (T := TX5) (N := 6) hx hb hts (by decide +kernel) hown hK hP 1 rfl rfl 3 (by decide) (hts (.fieldLink RX5 22 "SummitTime$Text" "end" "I") (by decide +kernel)) (fun _ h9 => h9) rfl dX5_isAtHand_1 ?_
  refine lv_aload_n hx hb dX5_isAtHand_4 rfl (lv_at hl 0 rfl) ?_
  refine va_get (D := D) (ci := 5) (v := .int (nI tx.2.2.1)) (C := RX5) (T := TX5) (N := 6) hx hb hts (by decide +kernel) hown hK hP 1 rfl rfl 2 (by decide) (hts (.fieldLink RX5 29 "SummitTime$Text" "begin" "I") (by decide +kernel)) (fun _ h9 => h9) rfl dX5_isAtHand_5 ?_
  refine lv_isub hx hb dX5_isAtHand_8 ?_
  refine lv_aload_n hx hb dX5_isAtHand_9 rfl (lv_at hl 1 rfl) ?_
  refine vp_callSi (va_Run.run (va_runV (As := []) (rest := [.int ((nI tx.2.2.2.1) - (nI tx.2.2.1))]) ⟨hx, hb, hml, hown, hts⟩ (c_J0_length_8abf5 l A adK adV ix hix) (cwV 0 hts gX5_isAtHand_J0_length_8abf5 rfl rfl rfl (by decide +kernel) ⟨Nat.le_of_ble_eq_true rfl, Nat.le_of_ble_eq_true rfl⟩) ⟨sE_fb, vk_recv hSE.1 hix hS, sE_at hSE hS⟩ rfl rfl hl.1 rfl (lv_room (Nat.le_of_ble_eq_true rfl)) dX5_isAtHand_10 ⟨Nat.zero_le _, Nat.zero_le _⟩)) (fun r hr9 => ?_)
  subst hr9
  refine lv_icmp_eq (tgt := 18) hx hb dX5_isAtHand_13 (by decide) (fun c_1 => ?_) (fun c_1 => ?_)
  · refine lv_iconst (v := nI 0) hx hb dX5_isAtHand_18 rfl ?_
    refine lv_istore_n (lv' := [(2, .int (nI 0)), (0, .ref (ad 1)), (1, .ref (adK ix))]) hx hb dX5_isAtHand_19 rfl hl (by decide) rfl (fun ls hl => ?_)
    have loop_20 : ∀ (n_20 : Nat) (k_20 : Nat) , (k_20 + n_20 = (lenS.getD ix 0)) → L_X5_isAtHand_20 tx ix n_20 k_20 = RES → ∀ (ls : Array Slot), lv_has ls 3 [(2, .int (nI k_20)), (0, .ref (ad 1)), (1, .ref (adK ix))] → W p l e (headSpec wsX5_isAtHand rm_X5_isAtHand).room s m ([.ref (ad 1), .ref (adK ix)] : List Value).toArray below meth c s.heap [] 0 0 Q (F0 m 20 ls []) := by
      intro n_20
      induction n_20 with
      | zero =>
        intro k_20 hk_20 hL_20 ls hl
        refine lv_iload_n hx hb dX5_isAtHand_20 rfl (lv_at hl 0 rfl) ?_
        refine lv_aload_n hx hb dX5_isAtHand_21 rfl (lv_at hl 2 rfl) ?_
        refine vp_callSi (va_Run.run (va_runV (As := []) (rest := [.int (nI k_20)]) ⟨hx, hb, hml, hown, hts⟩ (c_J0_length_8abf5 l A adK adV ix hix) (cwV 0 hts gX5_isAtHand_J0_length_8abf5 rfl rfl rfl (by decide +kernel) ⟨Nat.le_of_ble_eq_true rfl, Nat.le_of_ble_eq_true rfl⟩) ⟨sE_fb, vk_recv hSE.1 hix hS, sE_at hSE hS⟩ rfl rfl hl.1 rfl (lv_room (Nat.le_of_ble_eq_true rfl)) dX5_isAtHand_22 ⟨Nat.zero_le _, Nat.zero_le _⟩)) (fun r hr9 => ?_)
        subst hr9
        refine mv_icmp_ge (tgt := 54) hx hb dX5_isAtHand_25 (by decide) (by omega) (by omega) (fun c_4 => ?_) (fun c_4 => (by omega : False).elim)
        refine lv_iconst (v := nI 1) hx hb dX5_isAtHand_54 rfl ?_
        subst hQe
        have hf : (f_X5_isAtHand tx ix) = nI 1 := by rw [← hRES, ← hL_20, L_X5_isAtHand_20]
        exact W.zret (v := nI 1) (ty := .boolean) hx hb hr rfl (fun t ht hW => ⟨nI 1, rfl, hf.symm, ht⟩) (fun _ h => by cases h) dX5_isAtHand_55
      | succ n_20 ih_20 =>
        intro k_20 hk_20 hL_20 ls hl
        refine lv_iload_n hx hb dX5_isAtHand_20 rfl (lv_at hl 0 rfl) ?_
        refine lv_aload_n hx hb dX5_isAtHand_21 rfl (lv_at hl 2 rfl) ?_
        refine vp_callSi (va_Run.run (va_runV (As := []) (rest := [.int (nI k_20)]) ⟨hx, hb, hml, hown, hts⟩ (c_J0_length_8abf5 l A adK adV ix hix) (cwV 0 hts gX5_isAtHand_J0_length_8abf5 rfl rfl rfl (by decide +kernel) ⟨Nat.le_of_ble_eq_true rfl, Nat.le_of_ble_eq_true rfl⟩) ⟨sE_fb, vk_recv hSE.1 hix hS, sE_at hSE hS⟩ rfl rfl hl.1 rfl (lv_room (Nat.le_of_ble_eq_true rfl)) dX5_isAtHand_22 ⟨Nat.zero_le _, Nat.zero_le _⟩)) (fun r hr9 => ?_)
        subst hr9
        refine mv_icmp_ge (tgt := 54) hx hb dX5_isAtHand_25 (by decide) (by omega) (by omega) (fun c_2 => (by omega : False).elim) (fun c_2 => ?_)
        refine lv_aload_n hx hb dX5_isAtHand_28 rfl (lv_at hl 1 rfl) ?_
        refine lv_aload_n hx hb dX5_isAtHand_29 rfl (lv_at hl 1 rfl) ?_
        refine va_get (D := D) (ci := 5) (v := .int (nI tx.2.2.1)) (C := RX5) (T := TX5) (N := 6) hx hb hts (by decide +kernel) hown hK hP 1 rfl rfl 2 (by decide) (hts (.fieldLink RX5 29 "SummitTime$Text" "begin" "I") (by decide +kernel)) (fun _ h9 => h9) rfl dX5_isAtHand_30 ?_
        refine lv_iload_n hx hb dX5_isAtHand_33 rfl (lv_at hl 0 rfl) ?_
        refine mv_iadd hx hb dX5_isAtHand_34 ?_
        refine vp_callSi (va_Run.run (va_runV (As := [.int (nI (tx.2.2.1 + k_20))]) (rest := []) ⟨hx, hb, hml, hown, hts⟩ (c_X5_letterAt l D cI cL cZ ad A tx td dr dy lb pn ps ks si kb (tx.2.2.1 + k_20) (by first | assumption | omega) (by first | assumption | omega)) (cwV 1 hts gX5_isAtHand_X5_letterAt rfl rfl rfl (by decide +kernel) ⟨Nat.le_of_ble_eq_true rfl, Nat.le_of_ble_eq_true rfl⟩) ⟨sR_fb, va_recv hK hP (ci := 5) (q0 := 1) rfl rfl, sR_at hP hK hD hE⟩ rfl rfl hl.1 rfl (lv_room (Nat.le_of_ble_eq_true rfl)) dX5_isAtHand_35 ⟨Nat.zero_le _, Nat.zero_le _⟩)) (fun r hr => ?_)
        subst hr
        refine lv_aload_n hx hb dX5_isAtHand_38 rfl (lv_at hl 2 rfl) ?_
        refine lv_iload_n hx hb dX5_isAtHand_39 rfl (lv_at hl 0 rfl) ?_
        refine vp_callSi (va_Run.run (va_runV (As := [.int (nI k_20)]) (rest := [.int (f_X5_letterAt tx (tx.2.2.1 + k_20))]) ⟨hx, hb, hml, hown, hts⟩ (c_J0_charAt_5068e l A adK adV ix hix k_20 (by omega)) (cwV 1 hts gX5_isAtHand_J0_charAt_5068e rfl rfl rfl (by decide +kernel) ⟨Nat.le_of_ble_eq_true rfl, Nat.le_of_ble_eq_true rfl⟩) ⟨sE_fb, vk_recv hSE.1 hix hS, sE_at hSE hS⟩ rfl rfl hl.1 rfl (lv_room (Nat.le_of_ble_eq_true rfl)) dX5_isAtHand_40 ⟨Nat.zero_le _, Nat.zero_le _⟩)) (fun r hr9 => ?_)
        subst hr9
        refine lv_icmp_eq (tgt := 48) hx hb dX5_isAtHand_43 (by decide) (fun c_3 => ?_) (fun c_3 => ?_)
        · refine mv_iinc (y := k_20 + 1) (lv' := [(2, .int (nI (k_20 + 1))), (0, .ref (ad 1)), (1, .ref (adK ix))]) hx hb dX5_isAtHand_48 hl (k := 0) rfl (nI_p1 _) (by decide) rfl (fun ls hl => ?_)
          refine lv_goto (tgt := 20) hx hb dX5_isAtHand_51 (by decide) ?_
          exact ih_20 (k_20 + 1)  (by omega) (by have e9 := hL_20; rw [L_X5_isAtHand_20, if_pos c_3] at e9; exact e9) ls (lv_sub hl [0, 1, 2] rfl)
        · refine lv_iconst (v := nI 0) hx hb dX5_isAtHand_46 rfl ?_
          subst hQe
          have hf : (f_X5_isAtHand tx ix) = nI 0 := by rw [← hRES, ← hL_20, L_X5_isAtHand_20, if_neg c_3]
          exact W.zret (v := nI 0) (ty := .boolean) hx hb hr rfl (fun t ht hW => ⟨nI 0, rfl, hf.symm, ht⟩) (fun _ h => by cases h) dX5_isAtHand_47
    exact loop_20 (lenS.getD ix 0) 0 (by omega) (by rw [hRES, f_X5_isAtHand, if_pos c_1]) ls (lv_sub hl [0, 1, 2] rfl)
  · refine lv_iconst (v := nI 0) hx hb dX5_isAtHand_16 rfl ?_
    subst hQe
    have hf : (f_X5_isAtHand tx ix) = nI 0 := by rw [f_X5_isAtHand, if_neg c_1]
    exact W.zret (v := nI 0) (ty := .boolean) hx hb hr rfl (fun t ht hW => ⟨nI 0, rfl, hf.symm, ht⟩) (fun _ h => by cases h) dX5_isAtHand_17
def f_X5_wordAtHand (tx : XTx) : Int32 := (if (f_X5_isAtHand tx 0) = 0 then (if (f_X5_isAtHand tx 1) = 0 then (if (f_X5_isAtHand tx 2) = 0 then (if (f_X5_isAtHand tx 3) = 0 then (if (f_X5_isAtHand tx 4) = 0 then (if (f_X5_isAtHand tx 5) = 0 then (if (f_X5_isAtHand tx 6) = 0 then (if (f_X5_isAtHand tx 7) = 0 then (-1 : Int32) else nI 7) else nI 6) else nI 5) else nI 4) else nI 3) else nI 2) else nI 1) else nI 0)
abbrev rm_X5_wordAtHand : Room := { frames := 5, cells := 0, slots := 0, locals := 107 }
set_option maxHeartbeats 4000000 in
set_option maxRecDepth 100000 in
theorem c_X5_wordAtHand (l : Launch) (D : va_G) (cI cL cZ : ClassId) (ad : Nat → Nat) (A : Nat → Prop) (adK adV : Nat → Nat) (tx : XTx) (td : XTd) (dr : XTd) (dy : XDy) (lb : (Nat → Int32)) (pn : (Nat × Nat)) (ps : XSh) (ks : XSh) (si : XSi) (kb : Int32)  (hl0 : tx.2.1 ≤ 160) (hb0 : tx.2.2.1 ≤ 160) : Met l yX5_wordAtHand wsX5_wordAtHand rm_X5_wordAtHand (va_Pc [.ref (ad 1)] (xS D cI cL cZ A adK adV (xW cI cL cZ ad tx td dr dy lb pn ps ks si kb))) (vp_Si (fun r => r = (f_X5_wordAtHand tx))) 0 0 (fun _ => False) := by
  refine Met.ofW (cc := cX5_wordAtHand) (maxL := 1) (ret := (some .int)) (by decide) rfl ?_
  intro p e s m args below meth c s₁ B hml hv
  obtain ⟨rfl, ⟨hP, hK, hD, hE⟩, hSE, hSL⟩ := hv
  have hx := B.exec
  have hb := B.bytes
  have hr := B.returns
  have hts := atoms_spec (ws := wsX5_wordAtHand) B.pre
  have hown : s.vm.findClass RX5 = some m.cls := findClass_of_methodNamed B.named
  have hlocks := B.notSynchronized
  have hS : va_S A s.heap s.heap [] := va_S.rf
  have hl := lv_entry ([.ref (ad 1)]) (n := 1) (Nat.le_of_ble_eq_true rfl)
  rw [lg_entry_eq]
  generalize (lg_sl ([.ref (ad 1)]) ++ List.replicate (1 - (lg_sl ([.ref (ad 1)])).length) Slot.unset).toArray = ls at hl ⊢
  have hl : lv_has ls 1 [(0, .ref (ad 1))] := hl
  refine lv_aload_n hx hb dX5_wordAtHand_0 rfl (lv_at hl 0 rfl) ?_
  refine va_ldcS hx hb hown hSL.1 dX5_wordAtHand_1 ?_
  refine vp_callSi (va_Run.run (va_runV (As := [.ref (adK 0)]) (rest := []) ⟨hx, hb, hml, hown, hts⟩ (c_X5_isAtHand l D cI cL cZ ad A adK adV tx td dr dy lb pn ps ks si kb 0 (by first | assumption | omega) (by first | assumption | omega) (by first | assumption | omega)) (cwV 1 hts gX5_wordAtHand_X5_isAtHand rfl rfl rfl (by decide +kernel) ⟨Nat.le_of_ble_eq_true rfl, Nat.le_of_ble_eq_true rfl⟩) ⟨xS_fb, va_recv hK hP (ci := 5) (q0 := 1) rfl rfl, xS_at hP hK hD hE hSE hSL hS⟩ rfl rfl hl.1 rfl (lv_room (Nat.le_of_ble_eq_true rfl)) dX5_wordAtHand_3 ⟨Nat.zero_le _, Nat.zero_le _⟩)) (fun r hr => ?_)
  subst hr
  refine lv_if_eq (tgt := 11) hx hb dX5_wordAtHand_6 (by decide) (fun c_1 => ?_) (fun c_1 => ?_)
  · refine lv_aload_n hx hb dX5_wordAtHand_11 rfl (lv_at hl 0 rfl) ?_
    refine va_ldcS hx hb hown hSL.2.1 dX5_wordAtHand_12 ?_
    refine vp_callSi (va_Run.run (va_runV (As := [.ref (adK 1)]) (rest := []) ⟨hx, hb, hml, hown, hts⟩ (c_X5_isAtHand l D cI cL cZ ad A adK adV tx td dr dy lb pn ps ks si kb 1 (by first | assumption | omega) (by first | assumption | omega) (by first | assumption | omega)) (cwV 1 hts gX5_wordAtHand_X5_isAtHand rfl rfl rfl (by decide +kernel) ⟨Nat.le_of_ble_eq_true rfl, Nat.le_of_ble_eq_true rfl⟩) ⟨xS_fb, va_recv hK hP (ci := 5) (q0 := 1) rfl rfl, xS_at hP hK hD hE hSE hSL hS⟩ rfl rfl hl.1 rfl (lv_room (Nat.le_of_ble_eq_true rfl)) dX5_wordAtHand_14 ⟨Nat.zero_le _, Nat.zero_le _⟩)) (fun r hr => ?_)
    subst hr
    refine lv_if_eq (tgt := 22) hx hb dX5_wordAtHand_17 (by decide) (fun c_2 => ?_) (fun c_2 => ?_)
    · refine lv_aload_n hx hb dX5_wordAtHand_22 rfl (lv_at hl 0 rfl) ?_
      refine va_ldcS hx hb hown hSL.2.2.1 dX5_wordAtHand_23 ?_
      refine vp_callSi (va_Run.run (va_runV (As := [.ref (adK 2)]) (rest := []) ⟨hx, hb, hml, hown, hts⟩ (c_X5_isAtHand l D cI cL cZ ad A adK adV tx td dr dy lb pn ps ks si kb 2 (by first | assumption | omega) (by first | assumption | omega) (by first | assumption | omega)) (cwV 1 hts gX5_wordAtHand_X5_isAtHand rfl rfl rfl (by decide +kernel) ⟨Nat.le_of_ble_eq_true rfl, Nat.le_of_ble_eq_true rfl⟩) ⟨xS_fb, va_recv hK hP (ci := 5) (q0 := 1) rfl rfl, xS_at hP hK hD hE hSE hSL hS⟩ rfl rfl hl.1 rfl (lv_room (Nat.le_of_ble_eq_true rfl)) dX5_wordAtHand_25 ⟨Nat.zero_le _, Nat.zero_le _⟩)) (fun r hr => ?_)
      subst hr
      refine lv_if_eq (tgt := 33) hx hb dX5_wordAtHand_28 (by decide) (fun c_3 => ?_) (fun c_3 => ?_)
      · refine lv_aload_n hx hb dX5_wordAtHand_33 rfl (lv_at hl 0 rfl) ?_
        refine va_ldcS hx hb hown hSL.2.2.2.1 dX5_wordAtHand_34 ?_
        refine vp_callSi (va_Run.run (va_runV (As := [.ref (adK 3)]) (rest := []) ⟨hx, hb, hml, hown, hts⟩ (c_X5_isAtHand l D cI cL cZ ad A adK adV tx td dr dy lb pn ps ks si kb 3 (by first | assumption | omega) (by first | assumption | omega) (by first | assumption | omega)) (cwV 1 hts gX5_wordAtHand_X5_isAtHand rfl rfl rfl (by decide +kernel) ⟨Nat.le_of_ble_eq_true rfl, Nat.le_of_ble_eq_true rfl⟩) ⟨xS_fb, va_recv hK hP (ci := 5) (q0 := 1) rfl rfl, xS_at hP hK hD hE hSE hSL hS⟩ rfl rfl hl.1 rfl (lv_room (Nat.le_of_ble_eq_true rfl)) dX5_wordAtHand_36 ⟨Nat.zero_le _, Nat.zero_le _⟩)) (fun r hr => ?_)
        subst hr
        refine lv_if_eq (tgt := 44) hx hb dX5_wordAtHand_39 (by decide) (fun c_4 => ?_) (fun c_4 => ?_)
        · refine lv_aload_n hx hb dX5_wordAtHand_44 rfl (lv_at hl 0 rfl) ?_
          refine va_ldcS hx hb hown hSL.2.2.2.2.1 dX5_wordAtHand_45 ?_
          refine vp_callSi (va_Run.run (va_runV (As := [.ref (adK 4)]) (rest := []) ⟨hx, hb, hml, hown, hts⟩ (c_X5_isAtHand l D cI cL cZ ad A adK adV tx td dr dy lb pn ps ks si kb 4 (by first | assumption | omega) (by first | assumption | omega) (by first | assumption | omega)) (cwV 1 hts gX5_wordAtHand_X5_isAtHand rfl rfl rfl (by decide +kernel) ⟨Nat.le_of_ble_eq_true rfl, Nat.le_of_ble_eq_true rfl⟩) ⟨xS_fb, va_recv hK hP (ci := 5) (q0 := 1) rfl rfl, xS_at hP hK hD hE hSE hSL hS⟩ rfl rfl hl.1 rfl (lv_room (Nat.le_of_ble_eq_true rfl)) dX5_wordAtHand_47 ⟨Nat.zero_le _, Nat.zero_le _⟩)) (fun r hr => ?_)
          subst hr
          refine lv_if_eq (tgt := 55) hx hb dX5_wordAtHand_50 (by decide) (fun c_5 => ?_) (fun c_5 => ?_)
          · refine lv_aload_n hx hb dX5_wordAtHand_55 rfl (lv_at hl 0 rfl) ?_
            refine va_ldcS hx hb hown hSL.2.2.2.2.2.1 dX5_wordAtHand_56 ?_
            refine vp_callSi (va_Run.run (va_runV (As := [.ref (adK 5)]) (rest := []) ⟨hx, hb, hml, hown, hts⟩ (c_X5_isAtHand l D cI cL cZ ad A adK adV tx td dr dy lb pn ps ks si kb 5 (by first | assumption | omega) (by first | assumption | omega) (by first | assumption | omega)) (cwV 1 hts gX5_wordAtHand_X5_isAtHand rfl rfl rfl (by decide +kernel) ⟨Nat.le_of_ble_eq_true rfl, Nat.le_of_ble_eq_true rfl⟩) ⟨xS_fb, va_recv hK hP (ci := 5) (q0 := 1) rfl rfl, xS_at hP hK hD hE hSE hSL hS⟩ rfl rfl hl.1 rfl (lv_room (Nat.le_of_ble_eq_true rfl)) dX5_wordAtHand_58 ⟨Nat.zero_le _, Nat.zero_le _⟩)) (fun r hr => ?_)
            subst hr
            refine lv_if_eq (tgt := 66) hx hb dX5_wordAtHand_61 (by decide) (fun c_6 => ?_) (fun c_6 => ?_)
            · refine lv_aload_n hx hb dX5_wordAtHand_66 rfl (lv_at hl 0 rfl) ?_
              refine va_ldcS hx hb hown hSL.2.2.2.2.2.2.1 dX5_wordAtHand_67 ?_
              refine vp_callSi (va_Run.run (va_runV (As := [.ref (adK 6)]) (rest := []) ⟨hx, hb, hml, hown, hts⟩ (c_X5_isAtHand l D cI cL cZ ad A adK adV tx td dr dy lb pn ps ks si kb 6 (by first | assumption | omega) (by first | assumption | omega) (by first | assumption | omega)) (cwV 1 hts gX5_wordAtHand_X5_isAtHand rfl rfl rfl (by decide +kernel) ⟨Nat.le_of_ble_eq_true rfl, Nat.le_of_ble_eq_true rfl⟩) ⟨xS_fb, va_recv hK hP (ci := 5) (q0 := 1) rfl rfl, xS_at hP hK hD hE hSE hSL hS⟩ rfl rfl hl.1 rfl (lv_room (Nat.le_of_ble_eq_true rfl)) dX5_wordAtHand_69 ⟨Nat.zero_le _, Nat.zero_le _⟩)) (fun r hr => ?_)
              subst hr
              refine lv_if_eq (tgt := 78) hx hb dX5_wordAtHand_72 (by decide) (fun c_7 => ?_) (fun c_7 => ?_)
              · refine lv_aload_n hx hb dX5_wordAtHand_78 rfl (lv_at hl 0 rfl) ?_
                refine va_ldcS hx hb hown hSL.2.2.2.2.2.2.2 dX5_wordAtHand_79 ?_
                refine vp_callSi (va_Run.run (va_runV (As := [.ref (adK 7)]) (rest := []) ⟨hx, hb, hml, hown, hts⟩ (c_X5_isAtHand l D cI cL cZ ad A adK adV tx td dr dy lb pn ps ks si kb 7 (by first | assumption | omega) (by first | assumption | omega) (by first | assumption | omega)) (cwV 1 hts gX5_wordAtHand_X5_isAtHand rfl rfl rfl (by decide +kernel) ⟨Nat.le_of_ble_eq_true rfl, Nat.le_of_ble_eq_true rfl⟩) ⟨xS_fb, va_recv hK hP (ci := 5) (q0 := 1) rfl rfl, xS_at hP hK hD hE hSE hSL hS⟩ rfl rfl hl.1 rfl (lv_room (Nat.le_of_ble_eq_true rfl)) dX5_wordAtHand_81 ⟨Nat.zero_le _, Nat.zero_le _⟩)) (fun r hr => ?_)
                subst hr
                refine mv_phi (v := (if (f_X5_isAtHand tx 7) = 0 then (-1 : Int32) else nI 7)) (pcj := 93) (ls := ls) (rest' := []) ?_ (fun J_8 => ?_)
                · have hf : (f_X5_wordAtHand tx) = (if (f_X5_isAtHand tx 7) = 0 then (-1 : Int32) else nI 7) := by rw [f_X5_wordAtHand, if_pos c_1, if_pos c_2, if_pos c_3, if_pos c_4, if_pos c_5, if_pos c_6, if_pos c_7]
                  exact W.iret (v := (if (f_X5_isAtHand tx 7) = 0 then (-1 : Int32) else nI 7)) hx hb hr (fun t ht hW => ⟨(if (f_X5_isAtHand tx 7) = 0 then (-1 : Int32) else nI 7), rfl, hf.symm, ht⟩) (fun _ h => by cases h) dX5_wordAtHand_93
                · refine lv_if_eq (tgt := 92) hx hb dX5_wordAtHand_84 (by decide) (fun c_9 => ?_) (fun c_9 => ?_)
                  · refine lv_iconst (v := (-1)) hx hb dX5_wordAtHand_92 rfl ?_
                    exact J_8 _ (by rw [if_pos c_9])
                  · refine lv_bipush (v := nI 7) hx hb dX5_wordAtHand_87 rfl ?_
                    refine lv_goto (tgt := 93) hx hb dX5_wordAtHand_89 (by decide) ?_
                    exact J_8 _ (by rw [if_neg c_9])
              · refine lv_bipush (v := nI 6) hx hb dX5_wordAtHand_75 rfl ?_
                have hf : (f_X5_wordAtHand tx) = nI 6 := by rw [f_X5_wordAtHand, if_pos c_1, if_pos c_2, if_pos c_3, if_pos c_4, if_pos c_5, if_pos c_6, if_neg c_7]
                exact W.iret (v := nI 6) hx hb hr (fun t ht hW => ⟨nI 6, rfl, hf.symm, ht⟩) (fun _ h => by cases h) dX5_wordAtHand_77
            · refine lv_iconst (v := nI 5) hx hb dX5_wordAtHand_64 rfl ?_
              have hf : (f_X5_wordAtHand tx) = nI 5 := by rw [f_X5_wordAtHand, if_pos c_1, if_pos c_2, if_pos c_3, if_pos c_4, if_pos c_5, if_neg c_6]
              exact W.iret (v := nI 5) hx hb hr (fun t ht hW => ⟨nI 5, rfl, hf.symm, ht⟩) (fun _ h => by cases h) dX5_wordAtHand_65
          · refine lv_iconst (v := nI 4) hx hb dX5_wordAtHand_53 rfl ?_
            have hf : (f_X5_wordAtHand tx) = nI 4 := by rw [f_X5_wordAtHand, if_pos c_1, if_pos c_2, if_pos c_3, if_pos c_4, if_neg c_5]
            exact W.iret (v := nI 4) hx hb hr (fun t ht hW => ⟨nI 4, rfl, hf.symm, ht⟩) (fun _ h => by cases h) dX5_wordAtHand_54
        · refine lv_iconst (v := nI 3) hx hb dX5_wordAtHand_42 rfl ?_
          have hf : (f_X5_wordAtHand tx) = nI 3 := by rw [f_X5_wordAtHand, if_pos c_1, if_pos c_2, if_pos c_3, if_neg c_4]
          exact W.iret (v := nI 3) hx hb hr (fun t ht hW => ⟨nI 3, rfl, hf.symm, ht⟩) (fun _ h => by cases h) dX5_wordAtHand_43
      · refine lv_iconst (v := nI 2) hx hb dX5_wordAtHand_31 rfl ?_
        have hf : (f_X5_wordAtHand tx) = nI 2 := by rw [f_X5_wordAtHand, if_pos c_1, if_pos c_2, if_neg c_3]
        exact W.iret (v := nI 2) hx hb hr (fun t ht hW => ⟨nI 2, rfl, hf.symm, ht⟩) (fun _ h => by cases h) dX5_wordAtHand_32
    · refine lv_iconst (v := nI 1) hx hb dX5_wordAtHand_20 rfl ?_
      have hf : (f_X5_wordAtHand tx) = nI 1 := by rw [f_X5_wordAtHand, if_pos c_1, if_neg c_2]
      exact W.iret (v := nI 1) hx hb hr (fun t ht hW => ⟨nI 1, rfl, hf.symm, ht⟩) (fun _ h => by cases h) dX5_wordAtHand_21
  · refine lv_iconst (v := nI 0) hx hb dX5_wordAtHand_9 rfl ?_
    have hf : (f_X5_wordAtHand tx) = nI 0 := by rw [f_X5_wordAtHand, if_neg c_1]
    exact W.iret (v := nI 0) hx hb hr (fun t ht hW => ⟨nI 0, rfl, hf.symm, ht⟩) (fun _ h => by cases h) dX5_wordAtHand_10
