def L_X8_top_17 (T_1 : MTx × (Nat → Int32)) : Nat → Nat → (Nat → Int32) → (Nat → Int32)
  | 0, _, wto0_17 => wto0_17
  | n_17 + 1, k_17, wto0_17 => (L_X8_top_17 T_1 n_17 (k_17 + 1) (upd wto0_17 k_17 (T_1.2 k_17)))
def f_X8_top (to : (Nat → Int32)) (st : (Nat → Int32)) (mt : MTx) (rd : (Nat → Int32)) (un : MUn) (kp : MKp) (se : MUn) : Int32 × (Nat → Int32) × (Nat → Int32) × MTx × (Nat → Int32) × MUn × MKp × MUn := (if (f_X8_readText to mt rd).1 = 0 then ((-4 : Int32), to, st, (f_X8_readText to mt rd).2.1, (f_X8_readText to mt rd).2.2, un, kp, se) else (nI (f_X8_readText to mt rd).2.1.2.2.2.2.2.2, (L_X8_top_17 (f_X8_readText to mt rd).2 145 0 to), (f_X8_anew (L_X8_top_17 (f_X8_readText to mt rd).2 145 0 to) st), ((f_X8_readText to mt rd).2.1.1, 0, (f_X8_readText to mt rd).2.1.2.2.1, (f_X8_readText to mt rd).2.1.2.2.2.1, (f_X8_readText to mt rd).2.1.2.2.2.2.1, (f_X8_readText to mt rd).2.1.2.2.2.2.2.1, (f_X8_readText to mt rd).2.1.2.2.2.2.2.2), (f_X8_readText to mt rd).2.2, (un.1, 0), ((upd (upd kp.1 0 (vp_nar .boolean (nI 0))) 1 (vp_nar .boolean (nI 0))), kp.2), (se.1, 0)))
abbrev rm_X8_top : Room := { frames := 6, cells := 0, slots := 0, locals := 135 }
set_option maxHeartbeats 4000000 in
set_option maxRecDepth 100000 in
theorem c_X8_top (l : Launch) (D : va_G) (cI cL cZ : ClassId) (ad : Nat → Nat) (A : Nat → Prop) (to : (Nat → Int32)) (st : (Nat → Int32)) (mt : MTx) (rd : (Nat → Int32)) (un : MUn) (kp : MKp) (rw : MKp) (se : MUn)  (hl0 : mt.2.1 ≤ 160) (hb0 : mt.2.2.2.2.2.1 ≤ 160) (hm : to 0 = nI (mN to)) (hm6 : mN to ≤ 6) : Met l yX8_top wsX8_top rm_X8_top (va_Pc [.ref (ad 0)] (sR D cI cL cZ A (mW cI cL cZ ad to st mt rd un kp rw se))) (va_Qi (fun (r : Int32) (u : (Nat → Int32) × (Nat → Int32) × MTx × (Nat → Int32) × MUn × MKp × MUn) => r = (f_X8_top to st mt rd un kp se).1 ∧ u = (f_X8_top to st mt rd un kp se).2) (fun (u : (Nat → Int32) × (Nat → Int32) × MTx × (Nat → Int32) × MUn × MKp × MUn) t => va_P D vwCl (mW cI cL cZ ad u.1 u.2.1 u.2.2.1 u.2.2.2.1 u.2.2.2.2.1 u.2.2.2.2.2.1 rw u.2.2.2.2.2.2) t.heap) A) 0 0 A := by
  refine Met.ofW (cc := cX8_top) (maxL := 2) (ret := (some .int)) (by decide) rfl ?_
  intro p e s m args below meth c s₁ B hml hv
  obtain ⟨rfl, hP, hK, hD, hE⟩ := hv
  have hx := B.exec
  have hb := B.bytes
  have hr := B.returns
  have hts := atoms_spec (ws := wsX8_top) B.pre
  have hown : s.vm.findClass RX8 = some m.cls := findClass_of_methodNamed B.named
  have hlocks := B.notSynchronized
  have hS : va_S A s.heap s.heap [] := va_S.rf
  have hl := lv_entry ([.ref (ad 0)]) (n := 2) (Nat.le_of_ble_eq_true rfl)
  rw [lg_entry_eq]
  generalize (lg_sl ([.ref (ad 0)]) ++ List.replicate (2 - (lg_sl ([.ref (ad 0)])).length) Slot.unset).toArray = ls at hl ⊢
  have hl : lv_has ls 2 [(0, .ref (ad 0))] := hl
  obtain ⟨Q, hQe⟩ : ∃ Q, Q = MQ below (va_Qi (fun (r : Int32) (u : (Nat → Int32) × (Nat → Int32) × MTx × (Nat → Int32) × MUn × MKp × MUn) => r = (f_X8_top to st mt rd un kp se).1 ∧ u = (f_X8_top to st mt rd un kp se).2) (fun (u : (Nat → Int32) × (Nat → Int32) × MTx × (Nat → Int32) × MUn × MKp × MUn) t => va_P D vwCl (mW cI cL cZ ad u.1 u.2.1 u.2.2.1 u.2.2.2.1 u.2.2.2.2.1 u.2.2.2.2.2.1 rw u.2.2.2.2.2.2) t.heap) A) ([.ref (ad 0)] : List Value).toArray s 0 0 A := ⟨_, rfl⟩
  show W p l e (headSpec wsX8_top rm_X8_top).room s m ([.ref (ad 0)] : List Value).toArray below meth c s.heap [] 0 0 (MQ below (va_Qi (fun (r : Int32) (u : (Nat → Int32) × (Nat → Int32) × MTx × (Nat → Int32) × MUn × MKp × MUn) => r = (f_X8_top to st mt rd un kp se).1 ∧ u = (f_X8_top to st mt rd un kp se).2) (fun (u : (Nat → Int32) × (Nat → Int32) × MTx × (Nat → Int32) × MUn × MKp × MUn) t => va_P D vwCl (mW cI cL cZ ad u.1 u.2.1 u.2.2.1 u.2.2.2.1 u.2.2.2.2.1 u.2.2.2.2.2.1 rw u.2.2.2.2.2.2) t.heap) A) ([.ref (ad 0)] : List Value).toArray s 0 0 A) (F0 m 0 ls [])
  rw [← hQe]
  refine lv_aload_n hx hb dX8_top_0 rfl (lv_at hl 0 rfl) ?_
  refine va_calli (va_runV (As := []) (rest := []) ⟨hx, hb, hml, hown, hts⟩ (c_X8_readText l D cI cL cZ ad A to st mt rd un kp rw se  (by first | assumption | omega) (by first | assumption | omega) (by first | assumption | omega) (by first | assumption | omega)) (cwV 0 hts gX8_top_X8_readText rfl rfl rfl (by decide +kernel) ⟨Nat.le_of_ble_eq_true rfl, Nat.le_of_ble_eq_true rfl⟩) ⟨sR_fb, va_recv hK hP (ci := 8) (q0 := 0) rfl rfl, sR_at hP hK hD hE⟩ rfl rfl hl.1 rfl (lv_room (Nat.le_of_ble_eq_true rfl)) dX8_top_1 ⟨Nat.zero_le _, Nat.zero_le _⟩) hS (fun q _ h => h) (fun q h => h) (fun T_19999_1 T_1_1 t H locs ht hvm hw hB hz1 hk1 hS => ?_)
  obtain ⟨hT_19999_1, hT_1_1⟩ := hw
  rw [ht] at hB
  have hP : va_P D vwCl (mW cI cL cZ ad to st T_1_1.1 T_1_1.2 un kp rw se) H := hB
  have hD : va_D A (mW cI cL cZ ad to st T_1_1.1 T_1_1.2 un kp rw se) := mW_D hD
  refine lv_if_ne (tgt := 10) hx hb dX8_top_4 (by decide) (fun c_1 => ?_) (fun c_1 => ?_)
  · refine lv_aload_n hx hb dX8_top_10 rfl (lv_at hl 0 rfl) ?_
    refine lv_iconst (v := nI 0) hx hb dX8_top_11 rfl ?_
    refine va_put (D := D) (ci := 8) (v := .int (nI 0)) (ty := .int) (C := RX8) (T := TX8) (N := 18) hx hb hts (by decide +kernel) tyX8 tyX8_ok nmX8 hown hK hP hD hS 0 rfl rfl 3 (by decide) (hts (.fieldLink RX8 50 "SummitTimeModel" "letters" "I") (by decide +kernel)) (fun _ h9 => h9) rfl (by decide +kernel) rfl rfl (Nat.le_of_ble_eq_true rfl) dX8_top_12 (fun H locs hP hD hS => ?_)
    have hP : va_P D vwCl (mW cI cL cZ ad to st (T_1_1.1.1, 0, T_1_1.1.2.2.1, T_1_1.1.2.2.2.1, T_1_1.1.2.2.2.2.1, T_1_1.1.2.2.2.2.2.1, T_1_1.1.2.2.2.2.2.2) T_1_1.2 un kp rw se) H := hP
    have hD : va_D A (mW cI cL cZ ad to st (T_1_1.1.1, 0, T_1_1.1.2.2.1, T_1_1.1.2.2.2.1, T_1_1.1.2.2.2.2.1, T_1_1.1.2.2.2.2.2.1, T_1_1.1.2.2.2.2.2.2) T_1_1.2 un kp rw se) := hD
    refine lv_iconst (v := nI 0) hx hb dX8_top_15 rfl ?_
    refine lv_istore_n (lv' := [(1, .int (nI 0)), (0, .ref (ad 0))]) hx hb dX8_top_16 rfl hl (by decide) rfl (fun ls hl => ?_)
    obtain ⟨T_17_2, hT_17_2⟩ : ∃ z, z = (L_X8_top_17 T_1_1 145 0 to) := ⟨_, rfl⟩
    have hexit_17 : ∀ (H : Heap) (locs : List Loc) (ls : Array Slot), va_P D vwCl (mW cI cL cZ ad T_17_2 st (T_1_1.1.1, 0, T_1_1.1.2.2.1, T_1_1.1.2.2.2.1, T_1_1.1.2.2.2.2.1, T_1_1.1.2.2.2.2.2.1, T_1_1.1.2.2.2.2.2.2) T_1_1.2 un kp rw se) H → va_S A s.heap H locs → lv_has ls 2 [(0, .ref (ad 0))] → W p l e (headSpec wsX8_top rm_X8_top).room s m ([.ref (ad 0)] : List Value).toArray below meth c H locs 0 0 Q (F0 m 42 ls []) := by
      intro H locs ls hP hS hl
      have hD : va_D A (mW cI cL cZ ad T_17_2 st (T_1_1.1.1, 0, T_1_1.1.2.2.1, T_1_1.1.2.2.2.1, T_1_1.1.2.2.2.2.1, T_1_1.1.2.2.2.2.2.1, T_1_1.1.2.2.2.2.2.2) T_1_1.2 un kp rw se) := mW_D hD
      refine lv_aload_n hx hb dX8_top_42 rfl (lv_at hl 0 rfl) ?_
      refine va_callv (va_runV (As := []) (rest := []) ⟨hx, hb, hml, hown, hts⟩ (c_X8_anew l D cI cL cZ ad A T_17_2 st (T_1_1.1.1, 0, T_1_1.1.2.2.1, T_1_1.1.2.2.2.1, T_1_1.1.2.2.2.2.1, T_1_1.1.2.2.2.2.2.1, T_1_1.1.2.2.2.2.2.2) T_1_1.2 un kp rw se  ) (cwV 0 hts gX8_top_X8_anew rfl rfl rfl (by decide +kernel) ⟨Nat.le_of_ble_eq_true rfl, Nat.le_of_ble_eq_true rfl⟩) ⟨sR_fb, va_recv hK hP (ci := 8) (q0 := 0) rfl rfl, sR_at hP hK hD hE⟩ rfl rfl hl.1 rfl (lv_room (Nat.le_of_ble_eq_true rfl)) dX8_top_43 ⟨Nat.zero_le _, Nat.zero_le _⟩) hS (fun q _ h => h) (fun q h => h) (fun T_43_3 t H locs ht hvm hT_43_3 hB hz1 hk1 hS => ?_)
      rw [ht] at hB
      have hP : va_P D vwCl (mW cI cL cZ ad T_17_2 T_43_3 (T_1_1.1.1, 0, T_1_1.1.2.2.1, T_1_1.1.2.2.2.1, T_1_1.1.2.2.2.2.1, T_1_1.1.2.2.2.2.2.1, T_1_1.1.2.2.2.2.2.2) T_1_1.2 un kp rw se) H := hB
      have hD : va_D A (mW cI cL cZ ad T_17_2 T_43_3 (T_1_1.1.1, 0, T_1_1.1.2.2.1, T_1_1.1.2.2.2.1, T_1_1.1.2.2.2.2.1, T_1_1.1.2.2.2.2.2.1, T_1_1.1.2.2.2.2.2.2) T_1_1.2 un kp rw se) := mW_D hD
      refine lv_aload_n hx hb dX8_top_46 rfl (lv_at hl 0 rfl) ?_
      refine lv_iconst (v := nI 0) hx hb dX8_top_47 rfl ?_
      refine va_put (D := D) (ci := 8) (v := .int (nI 0)) (ty := .int) (C := RX8) (T := TX8) (N := 18) hx hb hts (by decide +kernel) tyX8 tyX8_ok nmX8 hown hK hP hD hS 0 rfl rfl 17 (by decide) (hts (.fieldLink RX8 121 "SummitTimeModel" "seenMany" "I") (by decide +kernel)) (fun _ h9 => h9) rfl (by decide +kernel) rfl rfl (Nat.le_of_ble_eq_true rfl) dX8_top_48 (fun H locs hP hD hS => ?_)
      have hP : va_P D vwCl (mW cI cL cZ ad T_17_2 T_43_3 (T_1_1.1.1, 0, T_1_1.1.2.2.1, T_1_1.1.2.2.2.1, T_1_1.1.2.2.2.2.1, T_1_1.1.2.2.2.2.2.1, T_1_1.1.2.2.2.2.2.2) T_1_1.2 un kp rw (se.1, 0)) H := hP
      have hD : va_D A (mW cI cL cZ ad T_17_2 T_43_3 (T_1_1.1.1, 0, T_1_1.1.2.2.1, T_1_1.1.2.2.2.1, T_1_1.1.2.2.2.2.1, T_1_1.1.2.2.2.2.2.1, T_1_1.1.2.2.2.2.2.2) T_1_1.2 un kp rw (se.1, 0)) := hD
      refine lv_aload_n hx hb dX8_top_51 rfl (lv_at hl 0 rfl) ?_
      refine lv_iconst (v := nI 0) hx hb dX8_top_52 rfl ?_
      refine va_put (D := D) (ci := 8) (v := .int (nI 0)) (ty := .int) (C := RX8) (T := TX8) (N := 18) hx hb hts (by decide +kernel) tyX8 tyX8_ok nmX8 hown hK hP hD hS 0 rfl rfl 11 (by decide) (hts (.fieldLink RX8 124 "SummitTimeModel" "undoMany" "I") (by decide +kernel)) (fun _ h9 => h9) rfl (by decide +kernel) rfl rfl (Nat.le_of_ble_eq_true rfl) dX8_top_53 (fun H locs hP hD hS => ?_)
      have hP : va_P D vwCl (mW cI cL cZ ad T_17_2 T_43_3 (T_1_1.1.1, 0, T_1_1.1.2.2.1, T_1_1.1.2.2.2.1, T_1_1.1.2.2.2.2.1, T_1_1.1.2.2.2.2.2.1, T_1_1.1.2.2.2.2.2.2) T_1_1.2 (un.1, 0) kp rw (se.1, 0)) H := hP
      have hD : va_D A (mW cI cL cZ ad T_17_2 T_43_3 (T_1_1.1.1, 0, T_1_1.1.2.2.1, T_1_1.1.2.2.2.1, T_1_1.1.2.2.2.2.1, T_1_1.1.2.2.2.2.2.1, T_1_1.1.2.2.2.2.2.2) T_1_1.2 (un.1, 0) kp rw (se.1, 0)) := hD
      refine lv_aload_n hx hb dX8_top_56 rfl (lv_at hl 0 rfl) ?_
      refine va_get (D := D) (ci := 8) (v := .ref (ad 6)) (C := RX8) (T := TX8) (N := 18) hx hb hts (by decide +kernel) hown hK hP 0 rfl rfl 12 (by decide) (hts (.fieldLink RX8 25 "SummitTimeModel" "isKept" "[Z") (by decide +kernel)) (fun _ h9 => h9) rfl dX8_top_57 ?_
      refine lv_iconst (v := nI 0) hx hb dX8_top_60 rfl ?_
      refine lv_iconst (v := nI 0) hx hb dX8_top_61 rfl ?_
      refine mv_zast (f := kp.1) hx hb hK hP hD hS 6 2 rfl rfl (by decide) (by decide) dX8_top_62 (fun H locs hP hD hS => ?_)
      have hP : va_P D vwCl (mW cI cL cZ ad T_17_2 T_43_3 (T_1_1.1.1, 0, T_1_1.1.2.2.1, T_1_1.1.2.2.2.1, T_1_1.1.2.2.2.2.1, T_1_1.1.2.2.2.2.2.1, T_1_1.1.2.2.2.2.2.2) T_1_1.2 (un.1, 0) ((upd kp.1 0 (vp_nar .boolean (nI 0))), kp.2) rw (se.1, 0)) H := hP
      have hD : va_D A (mW cI cL cZ ad T_17_2 T_43_3 (T_1_1.1.1, 0, T_1_1.1.2.2.1, T_1_1.1.2.2.2.1, T_1_1.1.2.2.2.2.1, T_1_1.1.2.2.2.2.2.1, T_1_1.1.2.2.2.2.2.2) T_1_1.2 (un.1, 0) ((upd kp.1 0 (vp_nar .boolean (nI 0))), kp.2) rw (se.1, 0)) := hD
      refine lv_aload_n hx hb dX8_top_63 rfl (lv_at hl 0 rfl) ?_
      refine va_get (D := D) (ci := 8) (v := .ref (ad 6)) (C := RX8) (T := TX8) (N := 18) hx hb hts (by decide +kernel) hown hK hP 0 rfl rfl 12 (by decide) (hts (.fieldLink RX8 25 "SummitTimeModel" "isKept" "[Z") (by decide +kernel)) (fun _ h9 => h9) rfl dX8_top_64 ?_
      refine lv_iconst (v := nI 1) hx hb dX8_top_67 rfl ?_
      refine lv_iconst (v := nI 0) hx hb dX8_top_68 rfl ?_
      refine mv_zast (f := (upd kp.1 0 (vp_nar .boolean (nI 0)))) hx hb hK hP hD hS 6 2 rfl rfl (by decide) (by decide) dX8_top_69 (fun H locs hP hD hS => ?_)
      have hP : va_P D vwCl (mW cI cL cZ ad T_17_2 T_43_3 (T_1_1.1.1, 0, T_1_1.1.2.2.1, T_1_1.1.2.2.2.1, T_1_1.1.2.2.2.2.1, T_1_1.1.2.2.2.2.2.1, T_1_1.1.2.2.2.2.2.2) T_1_1.2 (un.1, 0) ((upd (upd kp.1 0 (vp_nar .boolean (nI 0))) 1 (vp_nar .boolean (nI 0))), kp.2) rw (se.1, 0)) H := hP
      have hD : va_D A (mW cI cL cZ ad T_17_2 T_43_3 (T_1_1.1.1, 0, T_1_1.1.2.2.1, T_1_1.1.2.2.2.1, T_1_1.1.2.2.2.2.1, T_1_1.1.2.2.2.2.2.1, T_1_1.1.2.2.2.2.2.2) T_1_1.2 (un.1, 0) ((upd (upd kp.1 0 (vp_nar .boolean (nI 0))) 1 (vp_nar .boolean (nI 0))), kp.2) rw (se.1, 0)) := hD
      refine lv_aload_n hx hb dX8_top_70 rfl (lv_at hl 0 rfl) ?_
      refine va_get (D := D) (ci := 8) (v := .int (nI T_1_1.1.2.2.2.2.2.2)) (C := RX8) (T := TX8) (N := 18) hx hb hts (by decide +kernel) hown hK hP 0 rfl rfl 9 (by decide) (hts (.fieldLink RX8 111 "SummitTimeModel" "clauses" "I") (by decide +kernel)) (fun _ h9 => h9) rfl dX8_top_71 ?_
      subst hQe
      have hf : (f_X8_top to st mt rd un kp se) = (nI T_1_1.1.2.2.2.2.2.2, T_17_2, T_43_3, (T_1_1.1.1, 0, T_1_1.1.2.2.1, T_1_1.1.2.2.2.1, T_1_1.1.2.2.2.2.1, T_1_1.1.2.2.2.2.2.1, T_1_1.1.2.2.2.2.2.2), T_1_1.2, (un.1, 0), ((upd (upd kp.1 0 (vp_nar .boolean (nI 0))) 1 (vp_nar .boolean (nI 0))), kp.2), (se.1, 0)) := by rw [f_X8_top]; (try rw [← hT_19999_1]); (try rw [← hT_1_1]); (try rw [← hT_17_2]); (try rw [← hT_43_3]); first | done | rw [if_neg c_1]
      have hf1 : nI T_1_1.1.2.2.2.2.2.2 = (f_X8_top to st mt rd un kp se).1 := by rw [hf]
      have hf2 : (T_17_2, T_43_3, (T_1_1.1.1, 0, T_1_1.1.2.2.1, T_1_1.1.2.2.2.1, T_1_1.1.2.2.2.2.1, T_1_1.1.2.2.2.2.2.1, T_1_1.1.2.2.2.2.2.2), T_1_1.2, (un.1, 0), ((upd (upd kp.1 0 (vp_nar .boolean (nI 0))) 1 (vp_nar .boolean (nI 0))), kp.2), (se.1, 0)) = (f_X8_top to st mt rd un kp se).2 := by rw [hf]
      exact W.iret (v := nI T_1_1.1.2.2.2.2.2.2) hx hb hr (fun t ht hW => ⟨⟨nI T_1_1.1.2.2.2.2.2.2, (T_17_2, T_43_3, (T_1_1.1.1, 0, T_1_1.1.2.2.1, T_1_1.1.2.2.2.1, T_1_1.1.2.2.2.2.1, T_1_1.1.2.2.2.2.2.1, T_1_1.1.2.2.2.2.2.2), T_1_1.2, (un.1, 0), ((upd (upd kp.1 0 (vp_nar .boolean (nI 0))) 1 (vp_nar .boolean (nI 0))), kp.2), (se.1, 0)), rfl, ⟨hf1, hf2⟩, va_Pt ht hP⟩, hS.F ht⟩) hS.2.2 dX8_top_74
    have loop_17 : ∀ (n_17 : Nat) (k_17 : Nat) (wto0_17 : Nat → Int32), (k_17 + n_17 = 145) → L_X8_top_17 T_1_1 n_17 k_17 wto0_17 = T_17_2 → ∀ (H : Heap) (locs : List Loc) (ls : Array Slot), va_P D vwCl (mW cI cL cZ ad wto0_17 st (T_1_1.1.1, 0, T_1_1.1.2.2.1, T_1_1.1.2.2.2.1, T_1_1.1.2.2.2.2.1, T_1_1.1.2.2.2.2.2.1, T_1_1.1.2.2.2.2.2.2) T_1_1.2 un kp rw se) H → va_S A s.heap H locs → lv_has ls 2 [(1, .int (nI k_17)), (0, .ref (ad 0))] → W p l e (headSpec wsX8_top rm_X8_top).room s m ([.ref (ad 0)] : List Value).toArray below meth c H locs 0 0 Q (F0 m 17 ls []) := by
      intro n_17
      induction n_17 with
      | zero =>
        intro k_17 wto0_17 hk_17 hL_17 H locs ls hP hS hl
        have hD : va_D A (mW cI cL cZ ad wto0_17 st (T_1_1.1.1, 0, T_1_1.1.2.2.1, T_1_1.1.2.2.2.1, T_1_1.1.2.2.2.2.1, T_1_1.1.2.2.2.2.2.1, T_1_1.1.2.2.2.2.2.2) T_1_1.2 un kp rw se) := mW_D hD
        refine lv_iload_n hx hb dX8_top_17 rfl (lv_at hl 0 rfl) ?_
        refine lv_sipush (v := nI 145) hx hb dX8_top_18 rfl ?_
        refine mv_icmp_ge (tgt := 42) hx hb dX8_top_21 (by decide) (by omega) (by decide) (fun c_3 => ?_) (fun c_3 => (by omega : False).elim)
        have e9 : T_17_2 = wto0_17 := by rw [← hL_17, L_X8_top_17]
        have hq := hexit_17
        rw [e9] at hq
        exact hq _ _ ls  hP hS (lv_sub hl [1] rfl)
      | succ n_17 ih_17 =>
        intro k_17 wto0_17 hk_17 hL_17 H locs ls hP hS hl
        have hD : va_D A (mW cI cL cZ ad wto0_17 st (T_1_1.1.1, 0, T_1_1.1.2.2.1, T_1_1.1.2.2.2.1, T_1_1.1.2.2.2.2.1, T_1_1.1.2.2.2.2.2.1, T_1_1.1.2.2.2.2.2.2) T_1_1.2 un kp rw se) := mW_D hD
        refine lv_iload_n hx hb dX8_top_17 rfl (lv_at hl 0 rfl) ?_
        refine lv_sipush (v := nI 145) hx hb dX8_top_18 rfl ?_
        refine mv_icmp_ge (tgt := 42) hx hb dX8_top_21 (by decide) (by omega) (by decide) (fun c_2 => (by omega : False).elim) (fun c_2 => ?_)
        refine lv_aload_n hx hb dX8_top_24 rfl (lv_at hl 1 rfl) ?_
        refine va_get (D := D) (ci := 8) (v := .ref (ad 1)) (C := RX8) (T := TX8) (N := 18) hx hb hts (by decide +kernel) hown hK hP 0 rfl rfl 0 (by decide) (hts (.fieldLink RX8 7 "SummitTimeModel" "told" "[I") (by decide +kernel)) (fun _ h9 => h9) rfl dX8_top_25 ?_
        refine lv_iload_n hx hb dX8_top_28 rfl (lv_at hl 0 rfl) ?_
        refine lv_aload_n hx hb dX8_top_29 rfl (lv_at hl 1 rfl) ?_
        refine va_get (D := D) (ci := 8) (v := .ref (ad 4)) (C := RX8) (T := TX8) (N := 18) hx hb hts (by decide +kernel) hown hK hP 0 rfl rfl 8 (by decide) (hts (.fieldLink RX8 19 "SummitTimeModel" "read" "[I") (by decide +kernel)) (fun _ h9 => h9) rfl dX8_top_30 ?_
        refine lv_iload_n hx hb dX8_top_33 rfl (lv_at hl 0 rfl) ?_
        refine mv_iald (f := T_1_1.2) hx hb hK hP 4 0 rfl rfl (by omega) (by decide) dX8_top_34 ?_
        refine mv_iast (f := wto0_17) hx hb hK hP hD hS 1 0 rfl rfl (by omega) (by decide) dX8_top_35 (fun H locs hP hD hS => ?_)
        have hP : va_P D vwCl (mW cI cL cZ ad (upd wto0_17 k_17 (T_1_1.2 k_17)) st (T_1_1.1.1, 0, T_1_1.1.2.2.1, T_1_1.1.2.2.2.1, T_1_1.1.2.2.2.2.1, T_1_1.1.2.2.2.2.2.1, T_1_1.1.2.2.2.2.2.2) T_1_1.2 un kp rw se) H := hP
        have hD : va_D A (mW cI cL cZ ad (upd wto0_17 k_17 (T_1_1.2 k_17)) st (T_1_1.1.1, 0, T_1_1.1.2.2.1, T_1_1.1.2.2.2.1, T_1_1.1.2.2.2.2.1, T_1_1.1.2.2.2.2.2.1, T_1_1.1.2.2.2.2.2.2) T_1_1.2 un kp rw se) := hD
        refine mv_iinc (y := k_17 + 1) (lv' := [(1, .int (nI (k_17 + 1))), (0, .ref (ad 0))]) hx hb dX8_top_36 hl (k := 0) rfl (nI_p1 _) (by decide) rfl (fun ls hl => ?_)
        refine lv_goto (tgt := 17) hx hb dX8_top_39 (by decide) ?_
        exact ih_17 (k_17 + 1) (upd wto0_17 k_17 (T_1_1.2 k_17)) (by omega) (by have e9 := hL_17; rw [L_X8_top_17] at e9; exact e9) _ _ ls hP hS (lv_sub hl [0, 1] rfl)
    exact loop_17 145 0 to (by omega) hT_17_2.symm _ _ ls hP hS (lv_sub hl [0, 1] rfl)
  · refine lv_bipush (v := (-4)) hx hb dX8_top_7 rfl ?_
    subst hQe
    have hf : (f_X8_top to st mt rd un kp se) = ((-4 : Int32), to, st, T_1_1.1, T_1_1.2, un, kp, se) := by rw [f_X8_top]; (try rw [← hT_19999_1]); (try rw [← hT_1_1]); first | done | rw [if_pos c_1]
    have hf1 : (-4 : Int32) = (f_X8_top to st mt rd un kp se).1 := by rw [hf]
    have hf2 : (to, st, T_1_1.1, T_1_1.2, un, kp, se) = (f_X8_top to st mt rd un kp se).2 := by rw [hf]
    exact W.iret (v := (-4 : Int32)) hx hb hr (fun t ht hW => ⟨⟨(-4 : Int32), (to, st, T_1_1.1, T_1_1.2, un, kp, se), rfl, ⟨hf1, hf2⟩, va_Pt ht hP⟩, hS.F ht⟩) hS.2.2 dX8_top_9
