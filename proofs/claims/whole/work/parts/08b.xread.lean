def st0 (tx : XTx) : Nat := L_X5_step_8 tx tx.2.1 tx.2.2.2.1
def stS (tx : XTx) : Int32 := f_X5_sortOf (f_X5_letterAt (tx.1, tx.2.1, st0 tx, tx.2.2.2.1, tx.2.2.2.2.1, tx.2.2.2.2.2) (st0 tx))
def stE (tx : XTx) : Nat := L_X5_step_106 tx (st0 tx) (stS tx) tx.2.1 (if stS tx = 0 then st0 tx else (st0 tx + 1))
theorem st_eq (tx : XTx) : f_X5_step tx = (tx.1, tx.2.1, st0 tx, stE tx, stS tx, tx.2.2.2.2.2) := rfl
theorem st0_in (tx : XTx) : ∀ (n w : Nat), w ≤ tx.2.1 → w ≤ L_X5_step_8 tx n w ∧ L_X5_step_8 tx n w ≤ tx.2.1
  | 0, w, h => ⟨Nat.le_refl w, h⟩
  | n + 1, w, h => by
    rw [L_X5_step_8]
    split
    · exact ⟨Nat.le_refl w, h⟩
    · split
      · have h2 := st0_in tx n (w + 1) (by omega)
        omega
      · exact ⟨Nat.le_refl w, h⟩
theorem stE_in (tx : XTx) (T : Nat) (S : Int32) : ∀ (n w : Nat), w ≤ tx.2.1 → w ≤ L_X5_step_106 tx T S n w ∧ L_X5_step_106 tx T S n w ≤ tx.2.1
  | 0, w, h => by
    rw [L_X5_step_106]
    generalize (if S = nI 1 then nI 1 else (if S = nI 2 then nI 1 else nI 0)) = fl
    split <;> exact ⟨Nat.le_refl w, h⟩
  | n + 1, w, h => by
    rw [L_X5_step_106]
    generalize (if S = nI 1 then nI 1 else (if S = nI 2 then nI 1 else nI 0)) = fl
    split
    · exact ⟨Nat.le_refl w, h⟩
    · split
      · exact ⟨Nat.le_refl w, h⟩
      · split
        · have h2 := stE_in tx T S n (w + 1) (by omega)
          omega
        · exact ⟨Nat.le_refl w, h⟩
theorem xla_lt {tx : XTx} {k : Nat} (h : ¬ f_X5_sortOf (f_X5_letterAt tx k) = 0) : k < tx.2.1 := by
  rcases Nat.lt_or_ge k tx.2.1 with q | q
  · exact q
  · refine absurd ?_ h
    unfold f_X5_letterAt
    rw [if_pos q]
    decide
theorem st_in {tx : XTx} (he : tx.2.2.2.1 ≤ tx.2.1) : tx.2.2.2.1 ≤ st0 tx ∧ st0 tx ≤ stE tx ∧ stE tx ≤ tx.2.1 := by
  have h0 := st0_in tx tx.2.1 tx.2.2.2.1 he
  refine ⟨h0.1, ?_⟩
  by_cases hs : stS tx = 0
  · have h1 := stE_in tx (st0 tx) (stS tx) tx.2.1 (if stS tx = 0 then st0 tx else (st0 tx + 1)) (by rw [if_pos hs]; exact h0.2)
    rw [if_pos hs] at h1
    unfold stE
    rw [if_pos hs]
    exact h1
  · have h2 : st0 tx < tx.2.1 := xla_lt (tx := (tx.1, tx.2.1, st0 tx, tx.2.2.2.1, tx.2.2.2.2.1, tx.2.2.2.2.2)) hs
    have h1 := stE_in tx (st0 tx) (stS tx) tx.2.1 (if stS tx = 0 then st0 tx else (st0 tx + 1)) (by rw [if_neg hs]; exact h2)
    rw [if_neg hs] at h1
    unfold stE
    rw [if_neg hs]
    exact ⟨by omega, h1.2⟩
theorem st_ok {tx : XTx} (he : tx.2.2.2.1 ≤ tx.2.1) : (f_X5_step tx).1 = tx.1 ∧ (f_X5_step tx).2.1 = tx.2.1 ∧ (f_X5_step tx).2.2.1 ≤ (f_X5_step tx).2.2.2.1 ∧ (f_X5_step tx).2.2.2.1 ≤ tx.2.1 ∧ (f_X5_step tx).2.2.2.2.2 = tx.2.2.2.2.2 := by
  have h := st_in he
  rw [st_eq]
  exact ⟨rfl, rfl, h.2.1, h.2.2, rfl⟩

def L_X5_readNumber_35 (T_1 : XTx) : Nat → Nat → Int32 → Int32
  | 0, _, x3_35 => x3_35
  | n_35 + 1, k_35, x3_35 => (L_X5_readNumber_35 T_1 n_35 (k_35 + 1) (((x3_35 * (nI 10)) + (f_X5_letterAt T_1 k_35)) - (nI 48)))
def f_X5_readNumber (tx : XTx) (lo : Int32) (hi : Int32) : Int32 × XTx := (if (f_X5_step tx).2.2.2.2.1 = nI 2 then (if ((nI (f_X5_step tx).2.2.2.1) - (nI (f_X5_step tx).2.2.1)) ≤ nI 2 then ((if (f_X7_isWithin (L_X5_readNumber_35 (f_X5_step tx) ((f_X5_step tx).2.2.2.1 - (f_X5_step tx).2.2.1) (f_X5_step tx).2.2.1 (nI 0)) lo hi) = 0 then (-1 : Int32) else (L_X5_readNumber_35 (f_X5_step tx) ((f_X5_step tx).2.2.2.1 - (f_X5_step tx).2.2.1) (f_X5_step tx).2.2.1 (nI 0))), (f_X5_step tx)) else ((-1 : Int32), (f_X5_step tx))) else ((-1 : Int32), (f_X5_step tx)))
abbrev rm_X5_readNumber : Room := { frames := 2, cells := 0, slots := 0, locals := 42 }
set_option maxHeartbeats 4000000 in
set_option maxRecDepth 100000 in
theorem c_X5_readNumber (l : Launch) (D : va_G) (cI cL cZ : ClassId) (ad : Nat → Nat) (A : Nat → Prop) (tx : XTx) (td : XTd) (dr : XTd) (dy : XDy) (lb : (Nat → Int32)) (pn : (Nat × Nat)) (ps : XSh) (ks : XSh) (si : XSi) (kb : Int32) (lo : Int32) (hi : Int32) (hl0 : tx.2.1 ≤ 160) (he0 : tx.2.2.2.1 ≤ tx.2.1) : Met l yX5_readNumber wsX5_readNumber rm_X5_readNumber (va_Pc [.ref (ad 1), .int lo, .int hi] (sR D cI cL cZ A (xW cI cL cZ ad tx td dr dy lb pn ps ks si kb))) (va_Qi (fun (r : Int32) (u : XTx) => r = (f_X5_readNumber tx lo hi).1 ∧ u = (f_X5_readNumber tx lo hi).2) (fun (u : XTx) t => va_P D vwCl (xW cI cL cZ ad u td dr dy lb pn ps ks si kb) t.heap) A) 0 0 A := by
  refine Met.ofW (cc := cX5_readNumber) (maxL := 5) (ret := (some .int)) (by decide) rfl ?_
  intro p e s m args below meth c s₁ B hml hv
  obtain ⟨rfl, hP, hK, hD, hE⟩ := hv
  have hx := B.exec
  have hb := B.bytes
  have hr := B.returns
  have hts := atoms_spec (ws := wsX5_readNumber) B.pre
  have hown : s.vm.findClass RX5 = some m.cls := findClass_of_methodNamed B.named
  have hlocks := B.notSynchronized
  have hS : va_S A s.heap s.heap [] := va_S.rf
  have hl := lv_entry ([.ref (ad 1), .int lo, .int hi]) (n := 5) (Nat.le_of_ble_eq_true rfl)
  rw [lg_entry_eq]
  generalize (lg_sl ([.ref (ad 1), .int lo, .int hi]) ++ List.replicate (5 - (lg_sl ([.ref (ad 1), .int lo, .int hi])).length) Slot.unset).toArray = ls at hl ⊢
  have hl : lv_has ls 5 [(0, .ref (ad 1)), (1, .int lo), (2, .int hi)] := hl
  obtain ⟨Q, hQe⟩ : ∃ Q, Q = MQ below (va_Qi (fun (r : Int32) (u : XTx) => r = (f_X5_readNumber tx lo hi).1 ∧ u = (f_X5_readNumber tx lo hi).2) (fun (u : XTx) t => va_P D vwCl (xW cI cL cZ ad u td dr dy lb pn ps ks si kb) t.heap) A) ([.ref (ad 1), .int lo, .int hi] : List Value).toArray s 0 0 A := ⟨_, rfl⟩
  show W p l e (headSpec wsX5_readNumber rm_X5_readNumber).room s m ([.ref (ad 1), .int lo, .int hi] : List Value).toArray below meth c s.heap [] 0 0 (MQ below (va_Qi (fun (r : Int32) (u : XTx) => r = (f_X5_readNumber tx lo hi).1 ∧ u = (f_X5_readNumber tx lo hi).2) (fun (u : XTx) t => va_P D vwCl (xW cI cL cZ ad u td dr dy lb pn ps ks si kb) t.heap) A) ([.ref (ad 1), .int lo, .int hi] : List Value).toArray s 0 0 A) (F0 m 0 ls [])
  rw [← hQe]
  refine lv_aload_n hx hb dX5_readNumber_0 rfl (lv_at hl 0 rfl) ?_
  refine va_callv (va_runV (As := []) (rest := []) ⟨hx, hb, hml, hown, hts⟩ (c_X5_step l D cI cL cZ ad A tx td dr dy lb pn ps ks si kb  (by first | assumption | omega) (by first | assumption | omega)) (cwV 0 hts gX5_readNumber_X5_step rfl rfl rfl (by decide +kernel) ⟨Nat.le_of_ble_eq_true rfl, Nat.le_of_ble_eq_true rfl⟩) ⟨sR_fb, va_recv hK hP (ci := 5) (q0 := 1) rfl rfl, sR_at hP hK hD hE⟩ rfl rfl hl.1 rfl (lv_room (Nat.le_of_ble_eq_true rfl)) dX5_readNumber_1 ⟨Nat.zero_le _, Nat.zero_le _⟩) hS (fun q _ h => h) (fun q h => h) (fun T_1_1 t H locs ht hvm hT_1_1 hB hz1 hk1 hS => ?_)
  rw [ht] at hB
  have hP : va_P D vwCl (xW cI cL cZ ad T_1_1 td dr dy lb pn ps ks si kb) H := hB
  have hD : va_D A (xW cI cL cZ ad T_1_1 td dr dy lb pn ps ks si kb) := xW_D hD
  have hst := st_ok he0
  rw [← hT_1_1] at hst
  have hst1 := hst.2.1
  have hst2 := hst.2.2.1
  have hst3 := hst.2.2.2.1
  refine lv_aload_n hx hb dX5_readNumber_4 rfl (lv_at hl 0 rfl) ?_
  refine va_get (D := D) (ci := 5) (v := .int T_1_1.2.2.2.2.1) (C := RX5) (T := TX5) (N := 6) hx hb hts (by decide +kernel) hown hK hP 1 rfl rfl 4 (by decide) (hts (.fieldLink RX5 35 "SummitTime$Text" "sort" "I") (by decide +kernel)) (fun _ h9 => h9) rfl dX5_readNumber_5 ?_
  refine lv_iconst (v := nI 2) hx hb dX5_readNumber_8 rfl ?_
  refine lv_icmp_ne (tgt := 25) hx hb dX5_readNumber_9 (by decide) (fun c_1 => ?_) (fun c_1 => ?_)
  · refine lv_iconst (v := (-1)) hx hb dX5_readNumber_25 rfl ?_
    subst hQe
    have hf : (f_X5_readNumber tx lo hi) = ((-1 : Int32), T_1_1) := by rw [f_X5_readNumber]; (try rw [← hT_1_1]); first | done | rw [if_neg c_1]
    have hf1 : (-1 : Int32) = (f_X5_readNumber tx lo hi).1 := by rw [hf]
    have hf2 : T_1_1 = (f_X5_readNumber tx lo hi).2 := by rw [hf]
    exact W.iret (v := (-1 : Int32)) hx hb hr (fun t ht hW => ⟨⟨(-1 : Int32), T_1_1, rfl, ⟨hf1, hf2⟩, va_Pt ht hP⟩, hS.F ht⟩) hS.2.2 dX5_readNumber_26
  · refine lv_aload_n hx hb dX5_readNumber_12 rfl (lv_at hl 0 rfl) ?_
    refine va_get (D := D) (ci := 5) (v := .int (nI T_1_1.2.2.2.1)) (C := RX5) (T := TX5) (N := 6) hx hb hts (by decide +kernel) hown hK hP 1 rfl rfl 3 (by decide) (hts (.fieldLink RX5 22 "SummitTime$Text" "end" "I") (by decide +kernel)) (fun _ h9 => h9) rfl dX5_readNumber_13 ?_
    refine lv_aload_n hx hb dX5_readNumber_16 rfl (lv_at hl 0 rfl) ?_
    refine va_get (D := D) (ci := 5) (v := .int (nI T_1_1.2.2.1)) (C := RX5) (T := TX5) (N := 6) hx hb hts (by decide +kernel) hown hK hP 1 rfl rfl 2 (by decide) (hts (.fieldLink RX5 29 "SummitTime$Text" "begin" "I") (by decide +kernel)) (fun _ h9 => h9) rfl dX5_readNumber_17 ?_
    refine lv_isub hx hb dX5_readNumber_20 ?_
    refine lv_iconst (v := nI 2) hx hb dX5_readNumber_21 rfl ?_
    refine lv_icmp_le (tgt := 27) hx hb dX5_readNumber_22 (by decide) (fun c_2 => ?_) (fun c_2 => ?_)
    · refine lv_iconst (v := nI 0) hx hb dX5_readNumber_27 rfl ?_
      refine lv_istore_n (lv' := [(3, .int (nI 0)), (0, .ref (ad 1)), (1, .int lo), (2, .int hi)]) hx hb dX5_readNumber_28 rfl hl (by decide) rfl (fun ls hl => ?_)
      refine lv_aload_n hx hb dX5_readNumber_29 rfl (lv_at hl 1 rfl) ?_
      refine va_get (D := D) (ci := 5) (v := .int (nI T_1_1.2.2.1)) (C := RX5) (T := TX5) (N := 6) hx hb hts (by decide +kernel) hown hK hP 1 rfl rfl 2 (by decide) (hts (.fieldLink RX5 29 "SummitTime$Text" "begin" "I") (by decide +kernel)) (fun _ h9 => h9) rfl dX5_readNumber_30 ?_
      refine lv_istore (lv' := [(4, .int (nI T_1_1.2.2.1)), (3, .int (nI 0)), (0, .ref (ad 1)), (1, .int lo), (2, .int hi)]) hx hb dX5_readNumber_33 hl (by decide) rfl (fun ls hl => ?_)
      obtain ⟨T_35_2, hT_35_2⟩ : ∃ z, z = (L_X5_readNumber_35 T_1_1 (T_1_1.2.2.2.1 - T_1_1.2.2.1) T_1_1.2.2.1 (nI 0)) := ⟨_, rfl⟩
      have hexit_35 : ∀ (H : Heap) (locs : List Loc) (ls : Array Slot), va_P D vwCl (xW cI cL cZ ad T_1_1 td dr dy lb pn ps ks si kb) H → va_S A s.heap H locs → lv_has ls 5 [(3, .int T_35_2), (0, .ref (ad 1)), (1, .int lo), (2, .int hi)] → W p l e (headSpec wsX5_readNumber rm_X5_readNumber).room s m ([.ref (ad 1), .int lo, .int hi] : List Value).toArray below meth c H locs 0 0 Q (F0 m 65 ls []) := by
        intro H locs ls hP hS hl
        have hD : va_D A (xW cI cL cZ ad T_1_1 td dr dy lb pn ps ks si kb) := xW_D hD
        refine lv_iload_n hx hb dX5_readNumber_65 rfl (lv_at hl 0 rfl) ?_
        refine lv_iload_n hx hb dX5_readNumber_66 rfl (lv_at hl 2 rfl) ?_
        refine lv_iload_n hx hb dX5_readNumber_67 rfl (lv_at hl 3 rfl) ?_
        refine vp_callSi (va_Run.run (va_runSN (As := [.int T_35_2, .int lo, .int hi]) (rest := []) ⟨hx, hb, hml, hown, hts⟩ (c_X7_isWithin l T_35_2 lo hi ) ⟨va_cnB 3 hts gX5_readNumber_X7_isWithin_n85 rfl rfl rfl hE.2.2.2.2.2.2.2.2.2.2.2.1 (hts (.initialized RX7) (by decide +kernel)) (by decide +kernel) ⟨Nat.le_of_ble_eq_true rfl, Nat.le_of_ble_eq_true rfl⟩, hts (.static yX7_isWithin) (by decide +kernel), trivial⟩ ⟨pR_fb, pR_at⟩ rfl rfl hl.1 rfl (lv_room (Nat.le_of_ble_eq_true rfl)) dX5_readNumber_68 ⟨Nat.zero_le _, Nat.zero_le _⟩)) (fun r hr => ?_)
        subst hr
        refine mv_phi (v := (if (f_X7_isWithin T_35_2 lo hi) = 0 then (-1 : Int32) else T_35_2)) (pcj := 79) (ls := ls) (rest' := []) ?_ (fun J_5 => ?_)
        · subst hQe
          have hf : (f_X5_readNumber tx lo hi) = ((if (f_X7_isWithin T_35_2 lo hi) = 0 then (-1 : Int32) else T_35_2), T_1_1) := by rw [f_X5_readNumber]; (try rw [← hT_1_1]); (try rw [← hT_35_2]); first | done | rw [if_pos c_1, if_pos c_2]
          have hf1 : (if (f_X7_isWithin T_35_2 lo hi) = 0 then (-1 : Int32) else T_35_2) = (f_X5_readNumber tx lo hi).1 := by rw [hf]
          have hf2 : T_1_1 = (f_X5_readNumber tx lo hi).2 := by rw [hf]
          exact W.iret (v := (if (f_X7_isWithin T_35_2 lo hi) = 0 then (-1 : Int32) else T_35_2)) hx hb hr (fun t ht hW => ⟨⟨(if (f_X7_isWithin T_35_2 lo hi) = 0 then (-1 : Int32) else T_35_2), T_1_1, rfl, ⟨hf1, hf2⟩, va_Pt ht hP⟩, hS.F ht⟩) hS.2.2 dX5_readNumber_79
        · refine lv_if_eq (tgt := 78) hx hb dX5_readNumber_71 (by decide) (fun c_6 => ?_) (fun c_6 => ?_)
          · refine lv_iconst (v := (-1)) hx hb dX5_readNumber_78 rfl ?_
            exact J_5 _ (by rw [if_pos c_6])
          · refine lv_iload_n hx hb dX5_readNumber_74 rfl (lv_at hl 0 rfl) ?_
            refine lv_goto (tgt := 79) hx hb dX5_readNumber_75 (by decide) ?_
            exact J_5 _ (by rw [if_neg c_6])
      have loop_35 : ∀ (n_35 : Nat) (k_35 : Nat) (x3_35 : Int32), (k_35 + n_35 = T_1_1.2.2.2.1) → L_X5_readNumber_35 T_1_1 n_35 k_35 x3_35 = T_35_2 → ∀ (H : Heap) (locs : List Loc) (ls : Array Slot), va_P D vwCl (xW cI cL cZ ad T_1_1 td dr dy lb pn ps ks si kb) H → va_S A s.heap H locs → lv_has ls 5 [(4, .int (nI k_35)), (3, .int x3_35), (0, .ref (ad 1)), (1, .int lo), (2, .int hi)] → W p l e (headSpec wsX5_readNumber rm_X5_readNumber).room s m ([.ref (ad 1), .int lo, .int hi] : List Value).toArray below meth c H locs 0 0 Q (F0 m 35 ls []) := by
        intro n_35
        induction n_35 with
        | zero =>
          intro k_35 x3_35 hk_35 hL_35 H locs ls hP hS hl
          have hD : va_D A (xW cI cL cZ ad T_1_1 td dr dy lb pn ps ks si kb) := xW_D hD
          refine lv_iload hx hb dX5_readNumber_35 (lv_at hl 0 rfl) ?_
          refine lv_aload_n hx hb dX5_readNumber_37 rfl (lv_at hl 2 rfl) ?_
          refine va_get (D := D) (ci := 5) (v := .int (nI T_1_1.2.2.2.1)) (C := RX5) (T := TX5) (N := 6) hx hb hts (by decide +kernel) hown hK hP 1 rfl rfl 3 (by decide) (hts (.fieldLink RX5 22 "SummitTime$Text" "end" "I") (by decide +kernel)) (fun _ h9 => h9) rfl dX5_readNumber_38 ?_
          refine mv_icmp_ge (tgt := 65) hx hb dX5_readNumber_41 (by decide) (by omega) (by omega) (fun c_4 => ?_) (fun c_4 => (by omega : False).elim)
          have e9 : T_35_2 = x3_35 := by rw [← hL_35, L_X5_readNumber_35]
          have hq := hexit_35
          rw [e9] at hq
          exact hq _ _ ls  hP hS (lv_sub hl [1, 2, 3, 4] rfl)
        | succ n_35 ih_35 =>
          intro k_35 x3_35 hk_35 hL_35 H locs ls hP hS hl
          have hD : va_D A (xW cI cL cZ ad T_1_1 td dr dy lb pn ps ks si kb) := xW_D hD
          refine lv_iload hx hb dX5_readNumber_35 (lv_at hl 0 rfl) ?_
          refine lv_aload_n hx hb dX5_readNumber_37 rfl (lv_at hl 2 rfl) ?_
          refine va_get (D := D) (ci := 5) (v := .int (nI T_1_1.2.2.2.1)) (C := RX5) (T := TX5) (N := 6) hx hb hts (by decide +kernel) hown hK hP 1 rfl rfl 3 (by decide) (hts (.fieldLink RX5 22 "SummitTime$Text" "end" "I") (by decide +kernel)) (fun _ h9 => h9) rfl dX5_readNumber_38 ?_
          refine mv_icmp_ge (tgt := 65) hx hb dX5_readNumber_41 (by decide) (by omega) (by omega) (fun c_3 => (by omega : False).elim) (fun c_3 => ?_)
          refine lv_iload_n hx hb dX5_readNumber_44 rfl (lv_at hl 1 rfl) ?_
          refine lv_bipush (v := nI 10) hx hb dX5_readNumber_45 rfl ?_
          refine lv_imul hx hb dX5_readNumber_47 ?_
          refine lv_aload_n hx hb dX5_readNumber_48 rfl (lv_at hl 2 rfl) ?_
          refine lv_iload hx hb dX5_readNumber_49 (lv_at hl 0 rfl) ?_
          refine vp_callSi (va_Run.run (va_runV (As := [.int (nI k_35)]) (rest := [.int (x3_35 * (nI 10))]) ⟨hx, hb, hml, hown, hts⟩ (c_X5_letterAt l D cI cL cZ ad A T_1_1 td dr dy lb pn ps ks si kb k_35 (by omega) (by omega)) (cwV 1 hts gX5_readNumber_X5_letterAt rfl rfl rfl (by decide +kernel) ⟨Nat.le_of_ble_eq_true rfl, Nat.le_of_ble_eq_true rfl⟩) ⟨sR_fb, va_recv hK hP (ci := 5) (q0 := 1) rfl rfl, sR_at hP hK hD hE⟩ rfl rfl hl.1 rfl (lv_room (Nat.le_of_ble_eq_true rfl)) dX5_readNumber_51 ⟨Nat.zero_le _, Nat.zero_le _⟩)) (fun r hr => ?_)
          subst hr
          refine lv_iadd hx hb dX5_readNumber_54 ?_
          refine lv_bipush (v := nI 48) hx hb dX5_readNumber_55 rfl ?_
          refine lv_isub hx hb dX5_readNumber_57 ?_
          refine lv_istore_n (lv' := [(3, .int (((x3_35 * (nI 10)) + (f_X5_letterAt T_1_1 k_35)) - (nI 48))), (4, .int (nI k_35)), (0, .ref (ad 1)), (1, .int lo), (2, .int hi)]) hx hb dX5_readNumber_58 rfl hl (by decide) rfl (fun ls hl => ?_)
          refine mv_iinc (y := k_35 + 1) (lv' := [(4, .int (nI (k_35 + 1))), (3, .int (((x3_35 * (nI 10)) + (f_X5_letterAt T_1_1 k_35)) - (nI 48))), (0, .ref (ad 1)), (1, .int lo), (2, .int hi)]) hx hb dX5_readNumber_59 hl (k := 1) rfl (nI_p1 _) (by decide) rfl (fun ls hl => ?_)
          refine lv_goto (tgt := 35) hx hb dX5_readNumber_62 (by decide) ?_
          exact ih_35 (k_35 + 1) (((x3_35 * (nI 10)) + (f_X5_letterAt T_1_1 k_35)) - (nI 48)) (by omega) (by have e9 := hL_35; rw [L_X5_readNumber_35] at e9; exact e9) _ _ ls hP hS (lv_sub hl [0, 1, 2, 3, 4] rfl)
      exact loop_35 (T_1_1.2.2.2.1 - T_1_1.2.2.1) T_1_1.2.2.1 (nI 0) (by omega) hT_35_2.symm _ _ ls hP hS (lv_sub hl [0, 1, 2, 3, 4] rfl)
    · refine lv_iconst (v := (-1)) hx hb dX5_readNumber_25 rfl ?_
      subst hQe
      have hf : (f_X5_readNumber tx lo hi) = ((-1 : Int32), T_1_1) := by rw [f_X5_readNumber]; (try rw [← hT_1_1]); first | done | rw [if_pos c_1, if_neg c_2]
      have hf1 : (-1 : Int32) = (f_X5_readNumber tx lo hi).1 := by rw [hf]
      have hf2 : T_1_1 = (f_X5_readNumber tx lo hi).2 := by rw [hf]
      exact W.iret (v := (-1 : Int32)) hx hb hr (fun t ht hW => ⟨⟨(-1 : Int32), T_1_1, rfl, ⟨hf1, hf2⟩, va_Pt ht hP⟩, hS.F ht⟩) hS.2.2 dX5_readNumber_26
theorem rn_ok {tx : XTx} {lo hi : Int32} (he : tx.2.2.2.1 ≤ tx.2.1) : (f_X5_readNumber tx lo hi).2.1 = tx.1 ∧ (f_X5_readNumber tx lo hi).2.2.1 = tx.2.1 ∧ (f_X5_readNumber tx lo hi).2.2.2.1 ≤ (f_X5_readNumber tx lo hi).2.2.2.2.1 ∧ (f_X5_readNumber tx lo hi).2.2.2.2.1 ≤ tx.2.1 ∧ (f_X5_readNumber tx lo hi).2.2.2.2.2.2 = tx.2.2.2.2.2 := by
  have h := st_ok he
  have e : (f_X5_readNumber tx lo hi).2 = f_X5_step tx := by
    unfold f_X5_readNumber
    split
    · split
      · rfl
      · rfl
    · rfl
  rw [e]
  exact h
theorem rnE {tx T : XTx} {lo hi : Int32} (e : T = (f_X5_readNumber tx lo hi).2) (hl : tx.2.1 ≤ 160) (he : tx.2.2.2.1 ≤ tx.2.1) : T.2.1 ≤ 160 ∧ T.2.2.2.1 ≤ T.2.1 := by
  subst e
  have h := rn_ok (lo := lo) (hi := hi) he
  rw [h.2.1]
  exact ⟨hl, h.2.2.2.1⟩
theorem rn_l {tx : XTx} {lo hi : Int32} (hl : tx.2.1 ≤ 160) (he : tx.2.2.2.1 ≤ tx.2.1) : (f_X5_readNumber tx lo hi).2.2.1 ≤ 160 ∧ (f_X5_readNumber tx lo hi).2.2.2.2.1 ≤ (f_X5_readNumber tx lo hi).2.2.1 := by
  have h := rn_ok (lo := lo) (hi := hi) he
  rw [h.2.1]
  exact ⟨hl, h.2.2.2.1⟩
def f_X5_readPerson (tx : XTx) (dr : XTd) (ki : Int32) : Int32 × XTx × XTd := (if (f_X6_hasRoom dr) = 0 then (nI 0, tx, dr) else (if (f_X5_readNumber tx (nI 1) (nI 20)).1 = (-1 : Int32) then (nI 0, (f_X5_readNumber tx (nI 1) (nI 20)).2, dr) else (if (f_X5_readNumber (f_X5_readNumber tx (nI 1) (nI 20)).2 (nI 1) (nI 6)).1 = (-1 : Int32) then (nI 0, (f_X5_readNumber (f_X5_readNumber tx (nI 1) (nI 20)).2 (nI 1) (nI 6)).2, dr) else (if (f_X5_readNumber (f_X5_readNumber (f_X5_readNumber tx (nI 1) (nI 20)).2 (nI 1) (nI 6)).2 (nI 0) (nI 20)).1 = (-1 : Int32) then (nI 0, (f_X5_readNumber (f_X5_readNumber (f_X5_readNumber tx (nI 1) (nI 20)).2 (nI 1) (nI 6)).2 (nI 0) (nI 20)).2, dr) else (nI 1, (f_X5_readNumber (f_X5_readNumber (f_X5_readNumber tx (nI 1) (nI 20)).2 (nI 1) (nI 6)).2 (nI 0) (nI 20)).2, (f_X6_add dr ki (f_X5_readNumber tx (nI 1) (nI 20)).1 (f_X5_readNumber (f_X5_readNumber tx (nI 1) (nI 20)).2 (nI 1) (nI 6)).1 (f_X5_readNumber (f_X5_readNumber (f_X5_readNumber tx (nI 1) (nI 20)).2 (nI 1) (nI 6)).2 (nI 0) (nI 20)).1))))))
theorem f_X5_readPerson_b (tx : XTx) (dr : XTd) (ki : Int32) : (f_X5_readPerson tx dr ki).1 = nI 0 ∨ (f_X5_readPerson tx dr ki).1 = nI 1 := by
  unfold f_X5_readPerson
  (repeat' split) <;> first | exact Or.inl rfl | exact Or.inr rfl | exact f_X8_in_b _ _ _
abbrev rm_X5_readPerson : Room := { frames := 3, cells := 0, slots := 0, locals := 66 }
set_option maxHeartbeats 4000000 in
set_option maxRecDepth 100000 in
theorem c_X5_readPerson (l : Launch) (D : va_G) (cI cL cZ : ClassId) (ad : Nat → Nat) (A : Nat → Prop) (tx : XTx) (td : XTd) (dr : XTd) (dy : XDy) (lb : (Nat → Int32)) (pn : (Nat × Nat)) (ps : XSh) (ks : XSh) (si : XSi) (kb : Int32) (ki : Int32) (hl0 : tx.2.1 ≤ 160) (he0 : tx.2.2.2.1 ≤ tx.2.1) (hpe : dr.2.2.2.2.2.1 ≤ 6) : Met l yX5_readPerson wsX5_readPerson rm_X5_readPerson (va_Pc [.ref (ad 1), .ref (ad 9), .int ki] (sR D cI cL cZ A (xW cI cL cZ ad tx td dr dy lb pn ps ks si kb))) (va_Qi (fun (r : Int32) (u : XTx × XTd) => r = (f_X5_readPerson tx dr ki).1 ∧ u = (f_X5_readPerson tx dr ki).2) (fun (u : XTx × XTd) t => va_P D vwCl (xW cI cL cZ ad u.1 td u.2 dy lb pn ps ks si kb) t.heap) A) 0 0 A := by
  refine Met.ofW (cc := cX5_readPerson) (maxL := 6) (ret := (some .boolean)) (by decide) rfl ?_
  intro p e s m args below meth c s₁ B hml hv
  obtain ⟨rfl, hP, hK, hD, hE⟩ := hv
  have hx := B.exec
  have hb := B.bytes
  have hr := B.returns
  have hts := atoms_spec (ws := wsX5_readPerson) B.pre
  have hown : s.vm.findClass RX5 = some m.cls := findClass_of_methodNamed B.named
  have hlocks := B.notSynchronized
  have hS : va_S A s.heap s.heap [] := va_S.rf
  have hl := lv_entry ([.ref (ad 1), .ref (ad 9), .int ki]) (n := 6) (Nat.le_of_ble_eq_true rfl)
  rw [lg_entry_eq]
  generalize (lg_sl ([.ref (ad 1), .ref (ad 9), .int ki]) ++ List.replicate (6 - (lg_sl ([.ref (ad 1), .ref (ad 9), .int ki])).length) Slot.unset).toArray = ls at hl ⊢
  have hl : lv_has ls 6 [(0, .ref (ad 1)), (1, .ref (ad 9)), (2, .int ki)] := hl
  refine lv_aload_n hx hb dX5_readPerson_0 rfl (lv_at hl 1 rfl) ?_
  refine vp_callSi (va_Run.run (va_runV (As := []) (rest := []) ⟨hx, hb, hml, hown, hts⟩ (c_X6_hasRoom l D cI cL cZ ad A tx td dr dy lb pn ps ks si kb  (by first | assumption | omega)) (cwV 0 hts gX5_readPerson_X6_hasRoom rfl rfl rfl (by decide +kernel) ⟨Nat.le_of_ble_eq_true rfl, Nat.le_of_ble_eq_true rfl⟩) ⟨sR_fb, va_recv hK hP (ci := 6) (q0 := 9) rfl rfl, sR_at hP hK hD hE⟩ rfl rfl hl.1 rfl (lv_room (Nat.le_of_ble_eq_true rfl)) dX5_readPerson_1 ⟨Nat.zero_le _, Nat.zero_le _⟩)) (fun r hr => ?_)
  subst hr
  refine lv_if_ne (tgt := 9) hx hb dX5_readPerson_4 (by decide) (fun c_1 => ?_) (fun c_1 => ?_)
  · refine lv_aload_n hx hb dX5_readPerson_9 rfl (lv_at hl 0 rfl) ?_
    refine lv_iconst (v := nI 1) hx hb dX5_readPerson_10 rfl ?_
    refine lv_bipush (v := nI 20) hx hb dX5_readPerson_11 rfl ?_
    refine va_calli (va_runV (As := [.int (nI 1), .int (nI 20)]) (rest := []) ⟨hx, hb, hml, hown, hts⟩ (c_X5_readNumber l D cI cL cZ ad A tx td dr dy lb pn ps ks si kb (nI 1) (nI 20) hl0 he0) (cwV 2 hts gX5_readPerson_X5_readNumber rfl rfl rfl (by decide +kernel) ⟨Nat.le_of_ble_eq_true rfl, Nat.le_of_ble_eq_true rfl⟩) ⟨sR_fb, va_recv hK hP (ci := 5) (q0 := 1) rfl rfl, sR_at hP hK hD hE⟩ rfl rfl hl.1 rfl (lv_room (Nat.le_of_ble_eq_true rfl)) dX5_readPerson_13 ⟨Nat.zero_le _, Nat.zero_le _⟩) hS (fun q _ h => h) (fun q h => h) (fun T_139999_1 T_13_1 t H locs ht hvm hw hB hz1 hk1 hS => ?_)
    obtain ⟨hT_139999_1, hT_13_1⟩ := hw
    rw [ht] at hB
    have hP : va_P D vwCl (xW cI cL cZ ad T_13_1 td dr dy lb pn ps ks si kb) H := hB
    have hD : va_D A (xW cI cL cZ ad T_13_1 td dr dy lb pn ps ks si kb) := xW_D hD
    refine lv_istore_n (lv' := [(3, .int T_139999_1), (0, .ref (ad 1)), (1, .ref (ad 9)), (2, .int ki)]) hx hb dX5_readPerson_16 rfl hl (by decide) rfl (fun ls hl => ?_)
    refine lv_iload_n hx hb dX5_readPerson_17 rfl (lv_at hl 0 rfl) ?_
    refine lv_iconst (v := (-1)) hx hb dX5_readPerson_18 rfl ?_
    refine lv_icmp_ne (tgt := 26) hx hb dX5_readPerson_19 (by decide) (fun c_2 => ?_) (fun c_2 => ?_)
    · refine lv_aload_n hx hb dX5_readPerson_26 rfl (lv_at hl 1 rfl) ?_
      refine lv_iconst (v := nI 1) hx hb dX5_readPerson_27 rfl ?_
      refine lv_bipush (v := nI 6) hx hb dX5_readPerson_28 rfl ?_
      refine va_calli (va_runV (As := [.int (nI 1), .int (nI 6)]) (rest := []) ⟨hx, hb, hml, hown, hts⟩ (c_X5_readNumber l D cI cL cZ ad A T_13_1 td dr dy lb pn ps ks si kb (nI 1) (nI 6) (rnE hT_13_1 hl0 he0).1 (rnE hT_13_1 hl0 he0).2) (cwV 2 hts gX5_readPerson_X5_readNumber rfl rfl rfl (by decide +kernel) ⟨Nat.le_of_ble_eq_true rfl, Nat.le_of_ble_eq_true rfl⟩) ⟨sR_fb, va_recv hK hP (ci := 5) (q0 := 1) rfl rfl, sR_at hP hK hD hE⟩ rfl rfl hl.1 rfl (lv_room (Nat.le_of_ble_eq_true rfl)) dX5_readPerson_30 ⟨Nat.zero_le _, Nat.zero_le _⟩) hS (fun q _ h => h) (fun q h => h) (fun T_309999_3 T_30_3 t H locs ht hvm hw hB hz1 hk1 hS => ?_)
      obtain ⟨hT_309999_3, hT_30_3⟩ := hw
      rw [ht] at hB
      have hP : va_P D vwCl (xW cI cL cZ ad T_30_3 td dr dy lb pn ps ks si kb) H := hB
      have hD : va_D A (xW cI cL cZ ad T_30_3 td dr dy lb pn ps ks si kb) := xW_D hD
      refine lv_istore (lv' := [(4, .int T_309999_3), (3, .int T_139999_1), (0, .ref (ad 1)), (1, .ref (ad 9)), (2, .int ki)]) hx hb dX5_readPerson_33 hl (by decide) rfl (fun ls hl => ?_)
      refine lv_iload hx hb dX5_readPerson_35 (lv_at hl 0 rfl) ?_
      refine lv_iconst (v := (-1)) hx hb dX5_readPerson_37 rfl ?_
      refine lv_icmp_ne (tgt := 45) hx hb dX5_readPerson_38 (by decide) (fun c_3 => ?_) (fun c_3 => ?_)
      · refine lv_aload_n hx hb dX5_readPerson_45 rfl (lv_at hl 2 rfl) ?_
        refine lv_iconst (v := nI 0) hx hb dX5_readPerson_46 rfl ?_
        refine lv_bipush (v := nI 20) hx hb dX5_readPerson_47 rfl ?_
        refine va_calli (va_runV (As := [.int (nI 0), .int (nI 20)]) (rest := []) ⟨hx, hb, hml, hown, hts⟩ (c_X5_readNumber l D cI cL cZ ad A T_30_3 td dr dy lb pn ps ks si kb (nI 0) (nI 20) (rnE hT_30_3 (rnE hT_13_1 hl0 he0).1 (rnE hT_13_1 hl0 he0).2).1 (rnE hT_30_3 (rnE hT_13_1 hl0 he0).1 (rnE hT_13_1 hl0 he0).2).2) (cwV 2 hts gX5_readPerson_X5_readNumber rfl rfl rfl (by decide +kernel) ⟨Nat.le_of_ble_eq_true rfl, Nat.le_of_ble_eq_true rfl⟩) ⟨sR_fb, va_recv hK hP (ci := 5) (q0 := 1) rfl rfl, sR_at hP hK hD hE⟩ rfl rfl hl.1 rfl (lv_room (Nat.le_of_ble_eq_true rfl)) dX5_readPerson_49 ⟨Nat.zero_le _, Nat.zero_le _⟩) hS (fun q _ h => h) (fun q h => h) (fun T_499999_5 T_49_5 t H locs ht hvm hw hB hz1 hk1 hS => ?_)
        obtain ⟨hT_499999_5, hT_49_5⟩ := hw
        rw [ht] at hB
        have hP : va_P D vwCl (xW cI cL cZ ad T_49_5 td dr dy lb pn ps ks si kb) H := hB
        have hD : va_D A (xW cI cL cZ ad T_49_5 td dr dy lb pn ps ks si kb) := xW_D hD
        refine lv_istore (lv' := [(5, .int T_499999_5), (4, .int T_309999_3), (3, .int T_139999_1), (0, .ref (ad 1)), (1, .ref (ad 9)), (2, .int ki)]) hx hb dX5_readPerson_52 hl (by decide) rfl (fun ls hl => ?_)
        refine lv_iload hx hb dX5_readPerson_54 (lv_at hl 0 rfl) ?_
        refine lv_iconst (v := (-1)) hx hb dX5_readPerson_56 rfl ?_
        refine lv_icmp_ne (tgt := 62) hx hb dX5_readPerson_57 (by decide) (fun c_4 => ?_) (fun c_4 => ?_)
        · refine lv_aload_n hx hb dX5_readPerson_62 rfl (lv_at hl 4 rfl) ?_
          refine lv_iload_n hx hb dX5_readPerson_63 rfl (lv_at hl 5 rfl) ?_
          refine lv_iload_n hx hb dX5_readPerson_64 rfl (lv_at hl 2 rfl) ?_
          refine lv_iload hx hb dX5_readPerson_65 (lv_at hl 1 rfl) ?_
          refine lv_iload hx hb dX5_readPerson_67 (lv_at hl 0 rfl) ?_
          refine va_callv (va_runV (As := [.int ki, .int T_139999_1, .int T_309999_3, .int T_499999_5]) (rest := []) ⟨hx, hb, hml, hown, hts⟩ (c_X6_add l D cI cL cZ ad A T_49_5 td dr dy lb pn ps ks si kb ki T_139999_1 T_309999_3 T_499999_5 (by first | assumption | omega)) (cwV 4 hts gX5_readPerson_X6_add rfl rfl rfl (by decide +kernel) ⟨Nat.le_of_ble_eq_true rfl, Nat.le_of_ble_eq_true rfl⟩) ⟨sR_fb, va_recv hK hP (ci := 6) (q0 := 9) rfl rfl, sR_at hP hK hD hE⟩ rfl rfl hl.1 rfl (lv_room (Nat.le_of_ble_eq_true rfl)) dX5_readPerson_69 ⟨Nat.zero_le _, Nat.zero_le _⟩) hS (fun q _ h => h) (fun q h => h) (fun T_69_6 t H locs ht hvm hT_69_6 hB hz1 hk1 hS => ?_)
          rw [ht] at hB
          have hP : va_P D vwCl (xW cI cL cZ ad T_49_5 td T_69_6 dy lb pn ps ks si kb) H := hB
          have hD : va_D A (xW cI cL cZ ad T_49_5 td T_69_6 dy lb pn ps ks si kb) := xW_D hD
          refine lv_iconst (v := nI 1) hx hb dX5_readPerson_72 rfl ?_
          have hf : (f_X5_readPerson tx dr ki) = (nI 1, T_49_5, T_69_6) := by rw [f_X5_readPerson]; (try rw [← hT_139999_1]); (try rw [← hT_13_1]); (try rw [← hT_309999_3]); (try rw [← hT_30_3]); (try rw [← hT_499999_5]); (try rw [← hT_49_5]); (try rw [← hT_69_6]); first | done | rw [if_neg c_1, if_neg c_2, if_neg c_3, if_neg c_4]
          have hf1 : nI 1 = (f_X5_readPerson tx dr ki).1 := by rw [hf]
          have hf2 : (T_49_5, T_69_6) = (f_X5_readPerson tx dr ki).2 := by rw [hf]
          exact W.zret (v := nI 1) (ty := .boolean) hx hb hr rfl (fun t ht hW => ⟨⟨nI 1, (T_49_5, T_69_6), rfl, ⟨hf1, hf2⟩, va_Pt ht hP⟩, hS.F ht⟩) hS.2.2 dX5_readPerson_73
        · refine lv_iconst (v := nI 0) hx hb dX5_readPerson_60 rfl ?_
          have hf : (f_X5_readPerson tx dr ki) = (nI 0, T_49_5, dr) := by rw [f_X5_readPerson]; (try rw [← hT_139999_1]); (try rw [← hT_13_1]); (try rw [← hT_309999_3]); (try rw [← hT_30_3]); (try rw [← hT_499999_5]); (try rw [← hT_49_5]); first | done | rw [if_neg c_1, if_neg c_2, if_neg c_3, if_pos c_4]
          have hf1 : nI 0 = (f_X5_readPerson tx dr ki).1 := by rw [hf]
          have hf2 : (T_49_5, dr) = (f_X5_readPerson tx dr ki).2 := by rw [hf]
          exact W.zret (v := nI 0) (ty := .boolean) hx hb hr rfl (fun t ht hW => ⟨⟨nI 0, (T_49_5, dr), rfl, ⟨hf1, hf2⟩, va_Pt ht hP⟩, hS.F ht⟩) hS.2.2 dX5_readPerson_61
      · refine lv_iconst (v := (-1)) hx hb dX5_readPerson_41 rfl ?_
        refine lv_goto (tgt := 52) hx hb dX5_readPerson_42 (by decide) ?_
        refine lv_istore (lv' := [(5, .int (-1 : Int32)), (4, .int T_309999_3), (3, .int T_139999_1), (0, .ref (ad 1)), (1, .ref (ad 9)), (2, .int ki)]) hx hb dX5_readPerson_52 hl (by decide) rfl (fun ls hl => ?_)
        refine lv_iload hx hb dX5_readPerson_54 (lv_at hl 0 rfl) ?_
        refine lv_iconst (v := (-1)) hx hb dX5_readPerson_56 rfl ?_
        refine lv_icmp_ne (tgt := 62) hx hb dX5_readPerson_57 (by decide) (fun c_5 => absurd c_5 (by decide)) (fun c_5 => ?_)
        refine lv_iconst (v := nI 0) hx hb dX5_readPerson_60 rfl ?_
        have hf : (f_X5_readPerson tx dr ki) = (nI 0, T_30_3, dr) := by rw [f_X5_readPerson]; (try rw [← hT_139999_1]); (try rw [← hT_13_1]); (try rw [← hT_309999_3]); (try rw [← hT_30_3]); first | done | rw [if_neg c_1, if_neg c_2, if_pos c_3]
        have hf1 : nI 0 = (f_X5_readPerson tx dr ki).1 := by rw [hf]
        have hf2 : (T_30_3, dr) = (f_X5_readPerson tx dr ki).2 := by rw [hf]
        exact W.zret (v := nI 0) (ty := .boolean) hx hb hr rfl (fun t ht hW => ⟨⟨nI 0, (T_30_3, dr), rfl, ⟨hf1, hf2⟩, va_Pt ht hP⟩, hS.F ht⟩) hS.2.2 dX5_readPerson_61
    · refine lv_iconst (v := (-1)) hx hb dX5_readPerson_22 rfl ?_
      refine lv_goto (tgt := 33) hx hb dX5_readPerson_23 (by decide) ?_
      refine lv_istore (lv' := [(4, .int (-1 : Int32)), (3, .int T_139999_1), (0, .ref (ad 1)), (1, .ref (ad 9)), (2, .int ki)]) hx hb dX5_readPerson_33 hl (by decide) rfl (fun ls hl => ?_)
      refine lv_iload hx hb dX5_readPerson_35 (lv_at hl 0 rfl) ?_
      refine lv_iconst (v := (-1)) hx hb dX5_readPerson_37 rfl ?_
      refine mv_phi (v := (-1 : Int32)) (pcj := 52) (ls := ls) (rest' := []) ?_ (fun J_7 => ?_)
      · refine lv_istore (lv' := [(5, .int (-1 : Int32)), (4, .int (-1 : Int32)), (3, .int T_139999_1), (0, .ref (ad 1)), (1, .ref (ad 9)), (2, .int ki)]) hx hb dX5_readPerson_52 hl (by decide) rfl (fun ls hl => ?_)
        refine lv_iload hx hb dX5_readPerson_54 (lv_at hl 0 rfl) ?_
        refine lv_iconst (v := (-1)) hx hb dX5_readPerson_56 rfl ?_
        refine lv_icmp_ne (tgt := 62) hx hb dX5_readPerson_57 (by decide) (fun c_6 => absurd c_6 (by decide)) (fun c_6 => ?_)
        refine lv_iconst (v := nI 0) hx hb dX5_readPerson_60 rfl ?_
        have hf : (f_X5_readPerson tx dr ki) = (nI 0, T_13_1, dr) := by rw [f_X5_readPerson]; (try rw [← hT_139999_1]); (try rw [← hT_13_1]); first | done | rw [if_neg c_1, if_pos c_2]
        have hf1 : nI 0 = (f_X5_readPerson tx dr ki).1 := by rw [hf]
        have hf2 : (T_13_1, dr) = (f_X5_readPerson tx dr ki).2 := by rw [hf]
        exact W.zret (v := nI 0) (ty := .boolean) hx hb hr rfl (fun t ht hW => ⟨⟨nI 0, (T_13_1, dr), rfl, ⟨hf1, hf2⟩, va_Pt ht hP⟩, hS.F ht⟩) hS.2.2 dX5_readPerson_61
      · refine lv_icmp_ne (tgt := 45) hx hb dX5_readPerson_38 (by decide) (fun c_8 => absurd c_8 (by decide)) (fun c_8 => ?_)
        refine lv_iconst (v := (-1)) hx hb dX5_readPerson_41 rfl ?_
        refine lv_goto (tgt := 52) hx hb dX5_readPerson_42 (by decide) ?_
        exact J_7 _ rfl
  · refine lv_iconst (v := nI 0) hx hb dX5_readPerson_7 rfl ?_
    have hf : (f_X5_readPerson tx dr ki) = (nI 0, tx, dr) := by rw [f_X5_readPerson, if_pos c_1]
    have hf1 : nI 0 = (f_X5_readPerson tx dr ki).1 := by rw [hf]
    have hf2 : (tx, dr) = (f_X5_readPerson tx dr ki).2 := by rw [hf]
    exact W.zret (v := nI 0) (ty := .boolean) hx hb hr rfl (fun t ht hW => ⟨⟨nI 0, (tx, dr), rfl, ⟨hf1, hf2⟩, va_Pt ht hP⟩, hS.F ht⟩) hS.2.2 dX5_readPerson_8
