theorem rdOk_put {w : Nat → Int32} {v : Int32} {n : Nat} (hv : v = nI n) (hn : n ≤ 6) : rdOk (upd w 0 v) := by
  unfold rdOk mN
  rw [pk_us, hv, nI_clamp (by omega)]
  exact ⟨rfl, hn⟩
theorem rp_ok {mt : MTx} {rd : Nat → Int32} {ki : Int32} (h : mtOk mt) (hr : rdOk rd) : mtOk (f_X8_readPerson mt rd ki).2.1 ∧ rdOk (f_X8_readPerson mt rd ki).2.2 := by
  have h1 : mtOk (f_X8_number mt (nI 1) (nI 20)).2 := num_ok h
  have h2 : mtOk (f_X8_number (f_X8_number mt (nI 1) (nI 20)).2 (nI 1) (nI 6)).2 := num_ok h1
  have h3 : mtOk (f_X8_number (f_X8_number (f_X8_number mt (nI 1) (nI 20)).2 (nI 1) (nI 6)).2 (nI 0) (nI 20)).2 := num_ok h2
  unfold f_X8_readPerson
  split
  · (try dsimp only)
    exact ⟨h, hr⟩
  · rename_i c6
    split
    · split
      · split
        · (try dsimp only)
          refine ⟨h3, ?_⟩
          have e : ∀ (a b c d : Int32), upd (upd (upd (upd rd (1 + mN rd) a) (7 + mN rd) b) (13 + mN rd) c) (19 + mN rd) d 0 = nI (mN rd) := by
            intro a b c d
            rw [pk_un (by omega), pk_un (by omega), pk_un (by omega), pk_un (by omega)]
            exact hr.1
          have h6 := hr.2
          exact rdOk_put (n := mN rd + 1) (by rw [e]; exact nI_add _ _) (by omega)
        · (try dsimp only)
          exact ⟨h3, hr⟩
      · (try dsimp only)
        exact ⟨h2, hr⟩
    · (try dsimp only)
      exact ⟨h1, hr⟩
theorem fill_out (at_ : Nat) (vv : Int32) : ∀ (n k : Nat) (w : Nat → Int32) (j : Nat), j < at_ → L_X8_fill_3 at_ vv n k w j = w j
  | 0, _, _, _, _ => rfl
  | n + 1, k, w, j, h => by
    rw [L_X8_fill_3, fill_out at_ vv n (k + 1) _ j h, pk_un (by omega)]
theorem fill_rd {rd : Nat → Int32} {at_ fr to_ : Nat} {vv : Int32} (h : rdOk rd) (ha : 0 < at_) : rdOk (f_X8_fill rd at_ fr to_ vv) := by
  unfold rdOk mN f_X8_fill
  rw [fill_out at_ vv _ _ _ 0 ha]
  exact h
theorem rs_ok {mt : MTx} {rd : Nat → Int32} {at_ : Nat} {vv : Int32} (h : mtOk mt) (hr : rdOk rd) (ha : 0 < at_) : mtOk (f_X8_readSpan mt rd at_ vv).2.1 ∧ rdOk (f_X8_readSpan mt rd at_ vv).2.2 := by
  have h1 : mtOk (f_X8_number mt (nI 0) (nI 59)).2 := num_ok h
  have h2 : mtOk (f_X8_number (f_X8_number mt (nI 0) (nI 59)).2 (f_X8_number mt (nI 0) (nI 59)).1 (nI 59)).2 := num_ok h1
  unfold f_X8_readSpan
  split
  · split
    · (try dsimp only)
      exact ⟨h2, fill_rd hr ha⟩
    · (try dsimp only)
      exact ⟨h2, hr⟩
  · (try dsimp only)
    exact ⟨h1, hr⟩
def f_X8_readClause (mt : MTx) (rd : (Nat → Int32)) : Int32 × MTx × (Nat → Int32) := (if 0 ≤ (f_X8_verb mt) then (if nI 4 ≤ (f_X8_verb mt) then (if (f_X8_verb mt) = nI 5 then (if (f_X8_number mt (nI 0) ((nI (mN rd)) - (nI 1))).1 < 0 then (nI 0, (f_X8_number mt (nI 0) ((nI (mN rd)) - (nI 1))).2, rd) else ((if (f_X8_readSpan (f_X8_number mt (nI 0) ((nI (mN rd)) - (nI 1))).2 rd 25 (f_X8_number mt (nI 0) ((nI (mN rd)) - (nI 1))).1).1 = 0 then nI 0 else nI 1), (f_X8_readSpan (f_X8_number mt (nI 0) ((nI (mN rd)) - (nI 1))).2 rd 25 (f_X8_number mt (nI 0) ((nI (mN rd)) - (nI 1))).1).2.1, (f_X8_readSpan (f_X8_number mt (nI 0) ((nI (mN rd)) - (nI 1))).2 rd 25 (f_X8_number mt (nI 0) ((nI (mN rd)) - (nI 1))).1).2.2)) else (if (f_X8_verb mt) = nI 6 then ((f_X8_readSpan mt rd 85 (nI 1)).1, (f_X8_readSpan mt rd 85 (nI 1)).2.1, (f_X8_readSpan mt rd 85 (nI 1)).2.2) else (if (f_X8_verb mt) = nI 4 then (nI 1, mt, (f_X8_fill (upd (f_X8_fill rd 85 0 59 (nI 0)) 0 (nI 0)) 25 0 59 (-1 : Int32))) else (nI 1, mt, (f_X8_fill rd 85 0 59 (nI 0)))))) else ((f_X8_readPerson mt rd (f_X8_verb mt)).1, (f_X8_readPerson mt rd (f_X8_verb mt)).2.1, (f_X8_readPerson mt rd (f_X8_verb mt)).2.2)) else (nI 0, mt, rd))
theorem f_X8_readClause_b (mt : MTx) (rd : (Nat → Int32)) : (f_X8_readClause mt rd).1 = nI 0 ∨ (f_X8_readClause mt rd).1 = nI 1 := by
  unfold f_X8_readClause
  split
  · split
    · split
      · split
        · exact Or.inl rfl
        · dsimp only
          split
          · exact Or.inl rfl
          · exact Or.inr rfl
      · split
        · exact f_X8_readSpan_b _ _ _ _
        · split
          · exact Or.inr rfl
          · exact Or.inr rfl
    · exact f_X8_readPerson_b _ _ _
  · exact Or.inl rfl
abbrev rm_X8_readClause : Room := { frames := 4, cells := 0, slots := 0, locals := 92 }
set_option maxHeartbeats 4000000 in
set_option maxRecDepth 100000 in
theorem c_X8_readClause (l : Launch) (D : va_G) (cI cL cZ : ClassId) (ad : Nat → Nat) (A : Nat → Prop) (to : (Nat → Int32)) (st : (Nat → Int32)) (mt : MTx) (rd : (Nat → Int32)) (un : MUn) (kp : MKp) (rw : MKp) (se : MUn)  (hmt : mtOk mt) (hrd : rdOk rd) : Met l yX8_readClause wsX8_readClause rm_X8_readClause (va_Pc [.ref (ad 0)] (sR D cI cL cZ A (mW cI cL cZ ad to st mt rd un kp rw se))) (va_Qi (fun (r : Int32) (u : MTx × (Nat → Int32)) => r = (f_X8_readClause mt rd).1 ∧ u = (f_X8_readClause mt rd).2) (fun (u : MTx × (Nat → Int32)) t => va_P D vwCl (mW cI cL cZ ad to st u.1 u.2 un kp rw se) t.heap) A) 0 0 A := by
  refine Met.ofW (cc := cX8_readClause) (maxL := 3) (ret := (some .boolean)) (by decide) rfl ?_
  intro p e s m args below meth c s₁ B hml hv
  obtain ⟨rfl, hP, hK, hD, hE⟩ := hv
  have hx := B.exec
  have hb := B.bytes
  have hr := B.returns
  have hts := atoms_spec (ws := wsX8_readClause) B.pre
  have hown : s.vm.findClass RX8 = some m.cls := findClass_of_methodNamed B.named
  have hlocks := B.notSynchronized
  have hS : va_S A s.heap s.heap [] := va_S.rf
  have hl := lv_entry ([.ref (ad 0)]) (n := 3) (Nat.le_of_ble_eq_true rfl)
  rw [lg_entry_eq]
  generalize (lg_sl ([.ref (ad 0)]) ++ List.replicate (3 - (lg_sl ([.ref (ad 0)])).length) Slot.unset).toArray = ls at hl ⊢
  have hl : lv_has ls 3 [(0, .ref (ad 0))] := hl
  have hr6 := hrd.2
  refine lv_aload_n hx hb dX8_readClause_0 rfl (lv_at hl 0 rfl) ?_
  refine vp_callSi (va_Run.run (va_runV (As := []) (rest := []) ⟨hx, hb, hml, hown, hts⟩ (c_X8_verb l D cI cL cZ ad A to st mt rd un kp rw se  (by first | assumption | omega)) (cwV 0 hts gX8_readClause_X8_verb rfl rfl rfl (by decide +kernel) ⟨Nat.le_of_ble_eq_true rfl, Nat.le_of_ble_eq_true rfl⟩) ⟨sR_fb, va_recv hK hP (ci := 8) (q0 := 0) rfl rfl, sR_at hP hK hD hE⟩ rfl rfl hl.1 rfl (lv_room (Nat.le_of_ble_eq_true rfl)) dX8_readClause_1 ⟨Nat.zero_le _, Nat.zero_le _⟩)) (fun r hr => ?_)
  subst hr
  refine lv_istore_n (lv' := [(1, .int (f_X8_verb mt)), (0, .ref (ad 0))]) hx hb dX8_readClause_4 rfl hl (by decide) rfl (fun ls hl => ?_)
  refine lv_iload_n hx hb dX8_readClause_5 rfl (lv_at hl 0 rfl) ?_
  refine lv_if_ge (tgt := 11) hx hb dX8_readClause_6 (by decide) (fun c_1 => ?_) (fun c_1 => ?_)
  · refine lv_iload_n hx hb dX8_readClause_11 rfl (lv_at hl 0 rfl) ?_
    refine lv_iconst (v := nI 4) hx hb dX8_readClause_12 rfl ?_
    refine lv_icmp_ge (tgt := 22) hx hb dX8_readClause_13 (by decide) (fun c_2 => ?_) (fun c_2 => ?_)
    · refine lv_iload_n hx hb dX8_readClause_22 rfl (lv_at hl 0 rfl) ?_
      refine lv_iconst (v := nI 5) hx hb dX8_readClause_23 rfl ?_
      refine lv_icmp_ne (tgt := 61) hx hb dX8_readClause_24 (by decide) (fun c_3 => ?_) (fun c_3 => ?_)
      · refine lv_iload_n hx hb dX8_readClause_61 rfl (lv_at hl 0 rfl) ?_
        refine lv_bipush (v := nI 6) hx hb dX8_readClause_62 rfl ?_
        refine lv_icmp_ne (tgt := 75) hx hb dX8_readClause_64 (by decide) (fun c_4 => ?_) (fun c_4 => ?_)
        · refine lv_aload_n hx hb dX8_readClause_75 rfl (lv_at hl 1 rfl) ?_
          refine lv_bipush (v := nI 85) hx hb dX8_readClause_76 rfl ?_
          refine lv_iconst (v := nI 0) hx hb dX8_readClause_78 rfl ?_
          refine lv_bipush (v := nI 59) hx hb dX8_readClause_79 rfl ?_
          refine lv_iconst (v := nI 0) hx hb dX8_readClause_81 rfl ?_
          refine va_callv (va_runV (As := [.int (nI 85), .int (nI 0), .int (nI 59), .int (nI 0)]) (rest := []) ⟨hx, hb, hml, hown, hts⟩ (c_X8_fill l D cI cL cZ ad A to st mt rd un kp rw se 85 0 59 (nI 0) (by first | assumption | omega) (by first | assumption | omega) (by first | assumption | omega)) (cwV 4 hts gX8_readClause_X8_fill rfl rfl rfl (by decide +kernel) ⟨Nat.le_of_ble_eq_true rfl, Nat.le_of_ble_eq_true rfl⟩) ⟨sR_fb, va_recv hK hP (ci := 8) (q0 := 0) rfl rfl, sR_at hP hK hD hE⟩ rfl rfl hl.1 rfl (lv_room (Nat.le_of_ble_eq_true rfl)) dX8_readClause_82 ⟨Nat.zero_le _, Nat.zero_le _⟩) hS (fun q _ h => h) (fun q h => h) (fun T_82_1 t H locs ht hvm hT_82_1 hB hz1 hk1 hS => ?_)
          rw [ht] at hB
          have hP : va_P D vwCl (mW cI cL cZ ad to st mt T_82_1 un kp rw se) H := hB
          have hD : va_D A (mW cI cL cZ ad to st mt T_82_1 un kp rw se) := mW_D hD
          refine lv_iload_n hx hb dX8_readClause_85 rfl (lv_at hl 0 rfl) ?_
          refine lv_iconst (v := nI 4) hx hb dX8_readClause_86 rfl ?_
          refine lv_icmp_ne (tgt := 107) hx hb dX8_readClause_87 (by decide) (fun c_5 => ?_) (fun c_5 => ?_)
          · refine lv_iconst (v := nI 1) hx hb dX8_readClause_107 rfl ?_
            have hf : (f_X8_readClause mt rd) = (nI 1, mt, T_82_1) := by subst hT_82_1; rw [f_X8_readClause, if_pos c_1, if_pos c_2, if_neg c_3, if_neg c_4, if_neg c_5]
            exact W.zret (v := nI 1) (ty := .boolean) hx hb hr rfl (fun t ht hW => ⟨⟨nI 1, (mt, T_82_1), rfl, ⟨(congrArg Prod.fst hf).symm, (congrArg Prod.snd hf).symm⟩, va_Pt ht hP⟩, hS.F ht⟩) hS.2.2 dX8_readClause_108
          · refine lv_aload_n hx hb dX8_readClause_90 rfl (lv_at hl 1 rfl) ?_
            refine va_get (D := D) (ci := 8) (v := .ref (ad 4)) (C := RX8) (T := TX8) (N := 18) hx hb hts (by decide +kernel) hown hK hP 0 rfl rfl 8 (by decide) (hts (.fieldLink RX8 19 "SummitTimeModel" "read" "[I") (by decide +kernel)) (fun _ h9 => h9) rfl dX8_readClause_91 ?_
            refine lv_iconst (v := nI 0) hx hb dX8_readClause_94 rfl ?_
            refine lv_iconst (v := nI 0) hx hb dX8_readClause_95 rfl ?_
            refine mv_iast (f := T_82_1) hx hb hK hP hD hS 4 0 rfl rfl (by decide) (by decide) dX8_readClause_96 (fun H locs hP hD hS => ?_)
            have hP : va_P D vwCl (mW cI cL cZ ad to st mt (upd T_82_1 0 (nI 0)) un kp rw se) H := hP
            have hD : va_D A (mW cI cL cZ ad to st mt (upd T_82_1 0 (nI 0)) un kp rw se) := hD
            refine lv_aload_n hx hb dX8_readClause_97 rfl (lv_at hl 1 rfl) ?_
            refine lv_bipush (v := nI 25) hx hb dX8_readClause_98 rfl ?_
            refine lv_iconst (v := nI 0) hx hb dX8_readClause_100 rfl ?_
            refine lv_bipush (v := nI 59) hx hb dX8_readClause_101 rfl ?_
            refine lv_iconst (v := (-1)) hx hb dX8_readClause_103 rfl ?_
            refine va_callv (va_runV (As := [.int (nI 25), .int (nI 0), .int (nI 59), .int (-1 : Int32)]) (rest := []) ⟨hx, hb, hml, hown, hts⟩ (c_X8_fill l D cI cL cZ ad A to st mt (upd T_82_1 0 (nI 0)) un kp rw se 25 0 59 (-1 : Int32) (by first | assumption | omega) (by first | assumption | omega) (by first | assumption | omega)) (cwV 4 hts gX8_readClause_X8_fill rfl rfl rfl (by decide +kernel) ⟨Nat.le_of_ble_eq_true rfl, Nat.le_of_ble_eq_true rfl⟩) ⟨sR_fb, va_recv hK hP (ci := 8) (q0 := 0) rfl rfl, sR_at hP hK hD hE⟩ rfl rfl hl.1 rfl (lv_room (Nat.le_of_ble_eq_true rfl)) dX8_readClause_104 ⟨Nat.zero_le _, Nat.zero_le _⟩) hS (fun q _ h => h) (fun q h => h) (fun T_104_3 t H locs ht hvm hT_104_3 hB hz1 hk1 hS => ?_)
            rw [ht] at hB
            have hP : va_P D vwCl (mW cI cL cZ ad to st mt T_104_3 un kp rw se) H := hB
            have hD : va_D A (mW cI cL cZ ad to st mt T_104_3 un kp rw se) := mW_D hD
            refine lv_iconst (v := nI 1) hx hb dX8_readClause_107 rfl ?_
            have hf : (f_X8_readClause mt rd) = (nI 1, mt, T_104_3) := by subst hT_104_3; subst hT_82_1; rw [f_X8_readClause, if_pos c_1, if_pos c_2, if_neg c_3, if_neg c_4, if_pos c_5]
            exact W.zret (v := nI 1) (ty := .boolean) hx hb hr rfl (fun t ht hW => ⟨⟨nI 1, (mt, T_104_3), rfl, ⟨(congrArg Prod.fst hf).symm, (congrArg Prod.snd hf).symm⟩, va_Pt ht hP⟩, hS.F ht⟩) hS.2.2 dX8_readClause_108
        · refine lv_aload_n hx hb dX8_readClause_67 rfl (lv_at hl 1 rfl) ?_
          refine lv_bipush (v := nI 85) hx hb dX8_readClause_68 rfl ?_
          refine lv_iconst (v := nI 1) hx hb dX8_readClause_70 rfl ?_
          refine va_calli (va_runV (As := [.int (nI 85), .int (nI 1)]) (rest := []) ⟨hx, hb, hml, hown, hts⟩ (c_X8_readSpan l D cI cL cZ ad A to st mt rd un kp rw se 85 (nI 1) (by first | assumption | omega) (by first | assumption | omega)) (cwV 2 hts gX8_readClause_X8_readSpan rfl rfl rfl (by decide +kernel) ⟨Nat.le_of_ble_eq_true rfl, Nat.le_of_ble_eq_true rfl⟩) ⟨sR_fb, va_recv hK hP (ci := 8) (q0 := 0) rfl rfl, sR_at hP hK hD hE⟩ rfl rfl hl.1 rfl (lv_room (Nat.le_of_ble_eq_true rfl)) dX8_readClause_71 ⟨Nat.zero_le _, Nat.zero_le _⟩) hS (fun q _ h => h) (fun q h => h) (fun T_719999_4 T_71_4 t H locs ht hvm hw hB hz1 hk1 hS => ?_)
          obtain ⟨hT_719999_4, hT_71_4⟩ := hw
          rw [ht] at hB
          have hP : va_P D vwCl (mW cI cL cZ ad to st T_71_4.1 T_71_4.2 un kp rw se) H := hB
          have hD : va_D A (mW cI cL cZ ad to st T_71_4.1 T_71_4.2 un kp rw se) := mW_D hD
          have hf : (f_X8_readClause mt rd) = (T_719999_4, T_71_4.1, T_71_4.2) := by subst hT_71_4; subst hT_719999_4; rw [f_X8_readClause, if_pos c_1, if_pos c_2, if_neg c_3, if_pos c_4]
          exact W.zret (v := T_719999_4) (ty := .boolean) hx hb hr (by subst hT_719999_4; exact nb_of (f_X8_readSpan_b ..)) (fun t ht hW => ⟨⟨T_719999_4, (T_71_4.1, T_71_4.2), rfl, ⟨(congrArg Prod.fst hf).symm, (congrArg Prod.snd hf).symm⟩, va_Pt ht hP⟩, hS.F ht⟩) hS.2.2 dX8_readClause_74
      · refine lv_aload_n hx hb dX8_readClause_27 rfl (lv_at hl 1 rfl) ?_
        refine lv_iconst (v := nI 0) hx hb dX8_readClause_28 rfl ?_
        refine lv_aload_n hx hb dX8_readClause_29 rfl (lv_at hl 1 rfl) ?_
        refine va_get (D := D) (ci := 8) (v := .ref (ad 4)) (C := RX8) (T := TX8) (N := 18) hx hb hts (by decide +kernel) hown hK hP 0 rfl rfl 8 (by decide) (hts (.fieldLink RX8 19 "SummitTimeModel" "read" "[I") (by decide +kernel)) (fun _ h9 => h9) rfl dX8_readClause_30 ?_
        refine lv_iconst (v := nI 0) hx hb dX8_readClause_33 rfl ?_
        refine mv_iald (f := rd) hx hb hK hP 4 0 rfl rfl (by decide) (by decide) dX8_readClause_34 ?_
        refine mv_top (y := nI (mN rd)) hrd.1 ?_
        refine lv_iconst (v := nI 1) hx hb dX8_readClause_35 rfl ?_
        refine lv_isub hx hb dX8_readClause_36 ?_
        refine va_calli (va_runV (As := [.int (nI 0), .int ((nI (mN rd)) - (nI 1))]) (rest := []) ⟨hx, hb, hml, hown, hts⟩ (c_X8_number l D cI cL cZ ad A to st mt rd un kp rw se (nI 0) ((nI (mN rd)) - (nI 1)) hmt) (cwV 2 hts gX8_readClause_X8_number rfl rfl rfl (by decide +kernel) ⟨Nat.le_of_ble_eq_true rfl, Nat.le_of_ble_eq_true rfl⟩) ⟨sR_fb, va_recv hK hP (ci := 8) (q0 := 0) rfl rfl, sR_at hP hK hD hE⟩ rfl rfl hl.1 rfl (lv_room (Nat.le_of_ble_eq_true rfl)) dX8_readClause_37 ⟨Nat.zero_le _, Nat.zero_le _⟩) hS (fun q _ h => h) (fun q h => h) (fun T_379999_5 T_37_5 t H locs ht hvm hw hB hz1 hk1 hS => ?_)
        obtain ⟨hT_379999_5, hT_37_5⟩ := hw
        rw [ht] at hB
        have hP : va_P D vwCl (mW cI cL cZ ad to st T_37_5 rd un kp rw se) H := hB
        have hD : va_D A (mW cI cL cZ ad to st T_37_5 rd un kp rw se) := mW_D hD
        refine lv_istore_n (lv' := [(2, .int T_379999_5), (1, .int (f_X8_verb mt)), (0, .ref (ad 0))]) hx hb dX8_readClause_40 rfl hl (by decide) rfl (fun ls hl => ?_)
        refine lv_iload_n hx hb dX8_readClause_41 rfl (lv_at hl 0 rfl) ?_
        refine lv_if_lt (tgt := 59) hx hb dX8_readClause_42 (by decide) (fun c_6 => ?_) (fun c_6 => ?_)
        · refine lv_iconst (v := nI 0) hx hb dX8_readClause_59 rfl ?_
          have hf : (f_X8_readClause mt rd) = (nI 0, T_37_5, rd) := by subst hT_37_5; subst hT_379999_5; rw [f_X8_readClause, if_pos c_1, if_pos c_2, if_pos c_3, if_pos c_6]
          exact W.zret (v := nI 0) (ty := .boolean) hx hb hr rfl (fun t ht hW => ⟨⟨nI 0, (T_37_5, rd), rfl, ⟨(congrArg Prod.fst hf).symm, (congrArg Prod.snd hf).symm⟩, va_Pt ht hP⟩, hS.F ht⟩) hS.2.2 dX8_readClause_60
        · refine lv_aload_n hx hb dX8_readClause_45 rfl (lv_at hl 2 rfl) ?_
          refine lv_bipush (v := nI 25) hx hb dX8_readClause_46 rfl ?_
          refine lv_iload_n hx hb dX8_readClause_48 rfl (lv_at hl 0 rfl) ?_
          refine va_calli (va_runV (As := [.int (nI 25), .int T_379999_5]) (rest := []) ⟨hx, hb, hml, hown, hts⟩ (c_X8_readSpan l D cI cL cZ ad A to st T_37_5 rd un kp rw se 25 T_379999_5 (by subst_vars; exact num_ok hmt) (by first | assumption | omega)) (cwV 2 hts gX8_readClause_X8_readSpan rfl rfl rfl (by decide +kernel) ⟨Nat.le_of_ble_eq_true rfl, Nat.le_of_ble_eq_true rfl⟩) ⟨sR_fb, va_recv hK hP (ci := 8) (q0 := 0) rfl rfl, sR_at hP hK hD hE⟩ rfl rfl hl.1 rfl (lv_room (Nat.le_of_ble_eq_true rfl)) dX8_readClause_49 ⟨Nat.zero_le _, Nat.zero_le _⟩) hS (fun q _ h => h) (fun q h => h) (fun T_499999_7 T_49_7 t H locs ht hvm hw hB hz1 hk1 hS => ?_)
          obtain ⟨hT_499999_7, hT_49_7⟩ := hw
          rw [ht] at hB
          have hP : va_P D vwCl (mW cI cL cZ ad to st T_49_7.1 T_49_7.2 un kp rw se) H := hB
          have hD : va_D A (mW cI cL cZ ad to st T_49_7.1 T_49_7.2 un kp rw se) := mW_D hD
          refine mv_phi (v := (if T_499999_7 = 0 then nI 0 else nI 1)) (pcj := 60) (ls := ls) (rest' := []) ?_ (fun J_7 => ?_)
          · have hf : (f_X8_readClause mt rd) = ((if T_499999_7 = 0 then nI 0 else nI 1), T_49_7.1, T_49_7.2) := by subst hT_49_7; subst hT_499999_7; subst hT_37_5; subst hT_379999_5; rw [f_X8_readClause, if_pos c_1, if_pos c_2, if_pos c_3, if_neg c_6]
            exact W.zret (v := (if T_499999_7 = 0 then nI 0 else nI 1)) (ty := .boolean) hx hb hr nb_if (fun t ht hW => ⟨⟨(if T_499999_7 = 0 then nI 0 else nI 1), (T_49_7.1, T_49_7.2), rfl, ⟨(congrArg Prod.fst hf).symm, (congrArg Prod.snd hf).symm⟩, va_Pt ht hP⟩, hS.F ht⟩) hS.2.2 dX8_readClause_60
          · refine lv_if_eq (tgt := 59) hx hb dX8_readClause_52 (by decide) (fun c_8 => ?_) (fun c_8 => ?_)
            · refine lv_iconst (v := nI 0) hx hb dX8_readClause_59 rfl ?_
              exact J_7 _ (by rw [if_pos c_8])
            · refine lv_iconst (v := nI 1) hx hb dX8_readClause_55 rfl ?_
              refine lv_goto (tgt := 60) hx hb dX8_readClause_56 (by decide) ?_
              exact J_7 _ (by rw [if_neg c_8])
    · refine lv_aload_n hx hb dX8_readClause_16 rfl (lv_at hl 1 rfl) ?_
      refine lv_iload_n hx hb dX8_readClause_17 rfl (lv_at hl 0 rfl) ?_
      refine va_calli (va_runV (As := [.int (f_X8_verb mt)]) (rest := []) ⟨hx, hb, hml, hown, hts⟩ (c_X8_readPerson l D cI cL cZ ad A to st mt rd un kp rw se (f_X8_verb mt) (by first | assumption | omega) (by first | assumption | omega)) (cwV 1 hts gX8_readClause_X8_readPerson rfl rfl rfl (by decide +kernel) ⟨Nat.le_of_ble_eq_true rfl, Nat.le_of_ble_eq_true rfl⟩) ⟨sR_fb, va_recv hK hP (ci := 8) (q0 := 0) rfl rfl, sR_at hP hK hD hE⟩ rfl rfl hl.1 rfl (lv_room (Nat.le_of_ble_eq_true rfl)) dX8_readClause_18 ⟨Nat.zero_le _, Nat.zero_le _⟩) hS (fun q _ h => h) (fun q h => h) (fun T_189999_8 T_18_8 t H locs ht hvm hw hB hz1 hk1 hS => ?_)
      obtain ⟨hT_189999_8, hT_18_8⟩ := hw
      rw [ht] at hB
      have hP : va_P D vwCl (mW cI cL cZ ad to st T_18_8.1 T_18_8.2 un kp rw se) H := hB
      have hD : va_D A (mW cI cL cZ ad to st T_18_8.1 T_18_8.2 un kp rw se) := mW_D hD
      have hf : (f_X8_readClause mt rd) = (T_189999_8, T_18_8.1, T_18_8.2) := by subst hT_18_8; subst hT_189999_8; rw [f_X8_readClause, if_pos c_1, if_neg c_2]
      exact W.zret (v := T_189999_8) (ty := .boolean) hx hb hr (by subst hT_189999_8; exact nb_of (f_X8_readPerson_b ..)) (fun t ht hW => ⟨⟨T_189999_8, (T_18_8.1, T_18_8.2), rfl, ⟨(congrArg Prod.fst hf).symm, (congrArg Prod.snd hf).symm⟩, va_Pt ht hP⟩, hS.F ht⟩) hS.2.2 dX8_readClause_21
  · refine lv_iconst (v := nI 0) hx hb dX8_readClause_9 rfl ?_
    have hf : (f_X8_readClause mt rd) = (nI 0, mt, rd) := by rw [f_X8_readClause, if_neg c_1]
    exact W.zret (v := nI 0) (ty := .boolean) hx hb hr rfl (fun t ht hW => ⟨⟨nI 0, (mt, rd), rfl, ⟨(congrArg Prod.fst hf).symm, (congrArg Prod.snd hf).symm⟩, va_Pt ht hP⟩, hS.F ht⟩) hS.2.2 dX8_readClause_10
