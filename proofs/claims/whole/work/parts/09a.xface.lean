def ovI (j : Nat) : Int32 := [-1, 0, 1, 1, 0].getD j 0
/-- the row OVER -/
def oE (A : Nat → Prop) (tO : Nat) (U : State) : Prop := va_Z "SummitTime" "OVER" "[I" (.ref tO) A U U.heap ∧ va_T .int tO 5 (fun j => .int (ovI j)) A U U.heap
theorem oE.calling {A : Nat → Prop} {tO : Nat} {U : State} {g : JFrame} {mk : MethodId} {a : Array Value} (h : oE A tO U) : oE A tO (U.calling g mk a) := ⟨va_Z.moved (u := U) (U := U.calling g mk a) (Vm.Alike.refl U.vm) h.1, va_T.moved (u := U) (U := U.calling g mk a) (Vm.Alike.refl U.vm) h.2⟩
theorem oE.at {A : Nat → Prop} {tO : Nat} {s U : State} {H : Heap} {locs : List Loc} (h : oE A tO s) (hS : va_S A s.heap H locs) (hU : U.heap = H) (hW : s.WarmedH U.vm) : oE A tO U := by
  have hq : ∀ a : Nat, a < s.heap.size → ¬ A a → H[a]? = s.heap[a]? := hS.2.1
  have h1 := (h.1.kept hq).moved hW.alike
  have h2 := (h.2.kept hq).moved hW.alike
  rw [← hU] at h1 h2
  exact ⟨h1, h2⟩
theorem oE_fb {A : Nat → Prop} {tO : Nat} {av : List Value} : FrameBlind (va_Pc av (oE A tO)) := fun a U g mk q => ⟨q.1, q.2.calling⟩
theorem oE_at {A : Nat → Prop} {tO : Nat} {av : List Value} {s : State} {H : Heap} {locs : List Loc} (h : oE A tO s) (hS : va_S A s.heap H locs) : ∀ U : State, U.heap = H → s.WarmedH U.vm → va_Pc av (oE A tO) av.toArray U := fun U hU hW => ⟨rfl, h.at hS hU hW⟩
theorem isw_iff {x a b : Int32} : f_X7_isWithin x a b = 0 ↔ ¬ (a ≤ x ∧ x ≤ b) := by
  unfold f_X7_isWithin
  by_cases h1 : x < a
  · rw [if_pos h1]
    exact ⟨fun _ h => absurd h.1 (Int32.not_le.mpr h1), fun _ => rfl⟩
  · rw [if_neg h1]
    by_cases h2 : b < x
    · rw [if_pos h2]
      exact ⟨fun _ h => absurd h.2 (Int32.not_le.mpr h2), fun _ => rfl⟩
    · rw [if_neg h2]
      exact ⟨fun h => absurd h (by decide), fun h => absurd ⟨Int32.not_lt.mp h1, Int32.not_lt.mp h2⟩ h⟩
theorem isw_and {x : Int32} {H : Nat} (hH : H < 2 ^ 31) (c : ¬ f_X7_isWithin x (nI 0) (nI H) = 0) : x = nI x.toNatClampNeg ∧ x.toNatClampNeg ≤ H := by
  have c := Decidable.not_not.mp (fun q => c (isw_iff.mpr q))
  rw [Int32.le_iff_toInt_le, Int32.le_iff_toInt_le, nI_toInt hH] at c
  have h0 : (nI 0).toInt = 0 := by decide
  have h1 := cl_int x
  exact ⟨nn_int (by omega), by omega⟩
def L_X7_isUnder_4 (x1 : Int32) : Nat → Nat → Int32 → Int32
  | 0, _, _ => nI 0
  | n_4 + 1, k_4, x2_4 => (if x2_4 = x1 then nI 1 else (if x2_4 < 0 then nI 0 else (if x2_4 < nI 5 then (L_X7_isUnder_4 x1 n_4 (k_4 + 1) (ovI x2_4.toNatClampNeg)) else nI 0)))
def f_X7_isUnder (x0 : Int32) (x1 : Int32) : Int32 := (L_X7_isUnder_4 x1 5 0 x0)
theorem iu_b (x1 : Int32) : ∀ (n k : Nat) (x : Int32), L_X7_isUnder_4 x1 n k x = nI 0 ∨ L_X7_isUnder_4 x1 n k x = nI 1
  | 0, _, _ => Or.inl rfl
  | n + 1, k, x => by
    rw [L_X7_isUnder_4]
    split
    · exact Or.inr rfl
    · split
      · exact Or.inl rfl
      · split
        · exact iu_b x1 n (k + 1) _
        · exact Or.inl rfl
theorem f_X7_isUnder_b (x0 : Int32) (x1 : Int32) : (f_X7_isUnder x0 x1) = nI 0 ∨ (f_X7_isUnder x0 x1) = nI 1 := by
  unfold f_X7_isUnder
  exact iu_b _ _ _ _
abbrev rm_X7_isUnder : Room := { frames := 0, cells := 0, slots := 0, locals := 0 }
set_option maxHeartbeats 4000000 in
set_option maxRecDepth 100000 in
theorem c_X7_isUnder (l : Launch) (A : Nat → Prop) (tO : Nat) (x0 : Int32) (x1 : Int32)  : Met l yX7_isUnder wsX7_isUnder rm_X7_isUnder (va_Pc [.int x0, .int x1] (oE A tO)) (vp_Si (fun r => r = (f_X7_isUnder x0 x1))) 0 0 (fun _ => False) := by
  refine Met.ofW (cc := cX7_isUnder) (maxL := 4) (ret := (some .boolean)) (by decide) rfl ?_
  intro p e s m args below meth c s₁ B hml hv
  obtain ⟨rfl, hO⟩ := hv
  have hx := B.exec
  have hb := B.bytes
  have hr := B.returns
  have hts := atoms_spec (ws := wsX7_isUnder) B.pre
  have hown : s.vm.findClass RX7 = some m.cls := findClass_of_methodNamed B.named
  have hlocks := B.notSynchronized
  have hS : va_S A s.heap s.heap [] := va_S.rf
  have hl := lv_entry ([.int x0, .int x1]) (n := 4) (Nat.le_of_ble_eq_true rfl)
  rw [lg_entry_eq]
  generalize (lg_sl ([.int x0, .int x1]) ++ List.replicate (4 - (lg_sl ([.int x0, .int x1])).length) Slot.unset).toArray = ls at hl ⊢
  have hl : lv_has ls 4 [(0, .int x0), (1, .int x1)] := hl
  obtain ⟨Q, hQe⟩ : ∃ Q, Q = MQ below (vp_Si (fun r => r = (f_X7_isUnder x0 x1))) ([.int x0, .int x1] : List Value).toArray s 0 0 (fun _ => False) := ⟨_, rfl⟩
  show W p l e (headSpec wsX7_isUnder rm_X7_isUnder).room s m ([.int x0, .int x1] : List Value).toArray below meth c s.heap [] 0 0 (MQ below (vp_Si (fun r => r = (f_X7_isUnder x0 x1))) ([.int x0, .int x1] : List Value).toArray s 0 0 (fun _ => False)) (F0 m 0 ls [])
  rw [← hQe]
  obtain ⟨RES, hRES⟩ : ∃ z, z = (f_X7_isUnder x0 x1) := ⟨_, rfl⟩
  refine lv_iload_n hx hb dX7_isUnder_0 rfl (lv_at hl 0 rfl) ?_
  refine lv_istore_n (lv' := [(2, .int x0), (0, .int x0), (1, .int x1)]) hx hb dX7_isUnder_1 rfl hl (by decide) rfl (fun ls hl => ?_)
  refine lv_iconst (v := nI 0) hx hb dX7_isUnder_2 rfl ?_
  refine lv_istore_n (lv' := [(3, .int (nI 0)), (2, .int x0), (0, .int x0), (1, .int x1)]) hx hb dX7_isUnder_3 rfl hl (by decide) rfl (fun ls hl => ?_)
  have loop_4 : ∀ (n_4 : Nat) (k_4 : Nat) (x2_4 : Int32), (k_4 + n_4 = 5) → L_X7_isUnder_4 x1 n_4 k_4 x2_4 = RES → ∀ (ls : Array Slot), lv_has ls 4 [(3, .int (nI k_4)), (2, .int x2_4), (0, .int x0), (1, .int x1)] → W p l e (headSpec wsX7_isUnder rm_X7_isUnder).room s m ([.int x0, .int x1] : List Value).toArray below meth c s.heap [] 0 0 Q (F0 m 4 ls []) := by
    intro n_4
    induction n_4 with
    | zero =>
      intro k_4 x2_4 hk_4 hL_4 ls hl
      refine lv_iload_n hx hb dX7_isUnder_4 rfl (lv_at hl 0 rfl) ?_
      refine va_gets hx hb hO.1 hS hown (hts (.fieldLink RX7 155 "SummitTime" "OVER" "[I") (by decide +kernel)) (fun _ h9 => h9) dX7_isUnder_5 ?_
      refine va_tlen (v := nI 5) hx hb hO.2 hS rfl dX7_isUnder_8 ?_
      refine mv_icmp_ge (tgt := 45) hx hb dX7_isUnder_9 (by decide) (by omega) (by decide) (fun c_5 => ?_) (fun c_5 => (by omega : False).elim)
      refine lv_iconst (v := nI 0) hx hb dX7_isUnder_45 rfl ?_
      subst hQe
      have hf : (f_X7_isUnder x0 x1) = nI 0 := by rw [← hRES, ← hL_4, L_X7_isUnder_4]
      exact W.zret (v := nI 0) (ty := .boolean) hx hb hr rfl (fun t ht hW => ⟨nI 0, rfl, hf.symm, ht⟩) (fun _ h => by cases h) dX7_isUnder_46
    | succ n_4 ih_4 =>
      intro k_4 x2_4 hk_4 hL_4 ls hl
      refine lv_iload_n hx hb dX7_isUnder_4 rfl (lv_at hl 0 rfl) ?_
      refine va_gets hx hb hO.1 hS hown (hts (.fieldLink RX7 155 "SummitTime" "OVER" "[I") (by decide +kernel)) (fun _ h9 => h9) dX7_isUnder_5 ?_
      refine va_tlen (v := nI 5) hx hb hO.2 hS rfl dX7_isUnder_8 ?_
      refine mv_icmp_ge (tgt := 45) hx hb dX7_isUnder_9 (by decide) (by omega) (by decide) (fun c_1 => (by omega : False).elim) (fun c_1 => ?_)
      refine lv_iload_n hx hb dX7_isUnder_12 rfl (lv_at hl 1 rfl) ?_
      refine lv_iload_n hx hb dX7_isUnder_13 rfl (lv_at hl 3 rfl) ?_
      refine lv_icmp_ne (tgt := 19) hx hb dX7_isUnder_14 (by decide) (fun c_2 => ?_) (fun c_2 => ?_)
      · refine lv_iload_n hx hb dX7_isUnder_19 rfl (lv_at hl 1 rfl) ?_
        refine lv_if_lt (tgt := 31) hx hb dX7_isUnder_20 (by decide) (fun c_3 => ?_) (fun c_3 => ?_)
        · refine lv_iconst (v := nI 0) hx hb dX7_isUnder_31 rfl ?_
          subst hQe
          have hf : (f_X7_isUnder x0 x1) = nI 0 := by rw [← hRES, ← hL_4, L_X7_isUnder_4, if_neg c_2, if_pos c_3]
          exact W.zret (v := nI 0) (ty := .boolean) hx hb hr rfl (fun t ht hW => ⟨nI 0, rfl, hf.symm, ht⟩) (fun _ h => by cases h) dX7_isUnder_32
        · refine lv_iload_n hx hb dX7_isUnder_23 rfl (lv_at hl 1 rfl) ?_
          refine va_gets hx hb hO.1 hS hown (hts (.fieldLink RX7 155 "SummitTime" "OVER" "[I") (by decide +kernel)) (fun _ h9 => h9) dX7_isUnder_24 ?_
          refine va_tlen (v := nI 5) hx hb hO.2 hS rfl dX7_isUnder_27 ?_
          refine lv_icmp_lt (tgt := 33) hx hb dX7_isUnder_28 (by decide) (fun c_4 => ?_) (fun c_4 => ?_)
          · refine va_gets hx hb hO.1 hS hown (hts (.fieldLink RX7 155 "SummitTime" "OVER" "[I") (by decide +kernel)) (fun _ h9 => h9) dX7_isUnder_33 ?_
            refine lv_iload_n hx hb dX7_isUnder_36 rfl (lv_at hl 1 rfl) ?_
            refine va_ti (v := .int (ovI x2_4.toNatClampNeg)) hx hb hO.2 hS (ix_l 5 (by decide) (by decide) c_3 c_4) rfl dX7_isUnder_37 ?_
            refine lv_istore_n (lv' := [(2, .int (ovI x2_4.toNatClampNeg)), (3, .int (nI k_4)), (0, .int x0), (1, .int x1)]) hx hb dX7_isUnder_38 rfl hl (by decide) rfl (fun ls hl => ?_)
            refine mv_iinc (y := k_4 + 1) (lv' := [(3, .int (nI (k_4 + 1))), (2, .int (ovI x2_4.toNatClampNeg)), (0, .int x0), (1, .int x1)]) hx hb dX7_isUnder_39 hl (k := 1) rfl (nI_p1 _) (by decide) rfl (fun ls hl => ?_)
            refine lv_goto (tgt := 4) hx hb dX7_isUnder_42 (by decide) ?_
            exact ih_4 (k_4 + 1) (ovI x2_4.toNatClampNeg) (by omega) (by have e9 := hL_4; rw [L_X7_isUnder_4, if_neg c_2, if_neg c_3, if_pos c_4] at e9; exact e9) ls (lv_sub hl [0, 1, 2, 3] rfl)
          · refine lv_iconst (v := nI 0) hx hb dX7_isUnder_31 rfl ?_
            subst hQe
            have hf : (f_X7_isUnder x0 x1) = nI 0 := by rw [← hRES, ← hL_4, L_X7_isUnder_4, if_neg c_2, if_neg c_3, if_neg c_4]
            exact W.zret (v := nI 0) (ty := .boolean) hx hb hr rfl (fun t ht hW => ⟨nI 0, rfl, hf.symm, ht⟩) (fun _ h => by cases h) dX7_isUnder_32
      · refine lv_iconst (v := nI 1) hx hb dX7_isUnder_17 rfl ?_
        subst hQe
        have hf : (f_X7_isUnder x0 x1) = nI 1 := by rw [← hRES, ← hL_4, L_X7_isUnder_4, if_pos c_2]
        exact W.zret (v := nI 1) (ty := .boolean) hx hb hr rfl (fun t ht hW => ⟨nI 1, rfl, hf.symm, ht⟩) (fun _ h => by cases h) dX7_isUnder_18
  exact loop_4 5 0 x0 (by omega) (by rw [hRES, f_X7_isUnder]) ls (lv_sub hl [0, 1, 2, 3] rfl)
def f_X7_areTwo (td : XTd) (pe : Int32) (ot : Int32) : Int32 := (if (f_X6_knows td pe) = 0 then nI 0 else (if (f_X6_knows td ot) = 0 then nI 0 else (if pe = ot then nI 0 else nI 1)))
theorem f_X7_areTwo_b (td : XTd) (pe : Int32) (ot : Int32) : (f_X7_areTwo td pe ot) = nI 0 ∨ (f_X7_areTwo td pe ot) = nI 1 := by
  unfold f_X7_areTwo
  (repeat' split) <;> first | exact Or.inl rfl | exact Or.inr rfl | exact f_X8_in_b _ _ _
abbrev rm_X7_areTwo : Room := { frames := 1, cells := 0, slots := 0, locals := 21 }
set_option maxHeartbeats 4000000 in
set_option maxRecDepth 100000 in
theorem c_X7_areTwo (l : Launch) (D : va_G) (cI cL cZ : ClassId) (ad : Nat → Nat) (A : Nat → Prop) (tx : XTx) (td : XTd) (dr : XTd) (dy : XDy) (lb : (Nat → Int32)) (pn : (Nat × Nat)) (ps : XSh) (ks : XSh) (si : XSi) (kb : Int32) (pe : Int32) (ot : Int32)  : Met l yX7_areTwo wsX7_areTwo rm_X7_areTwo (va_Pc [.ref (ad 0), .int pe, .int ot] (sR D cI cL cZ A (xW cI cL cZ ad tx td dr dy lb pn ps ks si kb))) (vp_Si (fun r => r = (f_X7_areTwo td pe ot))) 0 0 (fun _ => False) := by
  refine Met.ofW (cc := cX7_areTwo) (maxL := 3) (ret := (some .boolean)) (by decide) rfl ?_
  intro p e s m args below meth c s₁ B hml hv
  obtain ⟨rfl, hP, hK, hD, hE⟩ := hv
  have hx := B.exec
  have hb := B.bytes
  have hr := B.returns
  have hts := atoms_spec (ws := wsX7_areTwo) B.pre
  have hown : s.vm.findClass RX7 = some m.cls := findClass_of_methodNamed B.named
  have hlocks := B.notSynchronized
  have hl := lv_entry ([.ref (ad 0), .int pe, .int ot]) (n := 3) (Nat.le_of_ble_eq_true rfl)
  rw [lg_entry_eq]
  generalize (lg_sl ([.ref (ad 0), .int pe, .int ot]) ++ List.replicate (3 - (lg_sl ([.ref (ad 0), .int pe, .int ot])).length) Slot.unset).toArray = ls at hl ⊢
  have hl : lv_has ls 3 [(0, .ref (ad 0)), (1, .int pe), (2, .int ot)] := hl
  refine lv_aload_n hx hb dX7_areTwo_0 rfl (lv_at hl 0 rfl) ?_
  refine va_get (D := D) (ci := 7) (v := .ref (ad 3)) (C := RX7) (T := TX7) (N := 9) hx hb hts (by decide +kernel) hown hK hP 0 rfl rfl 1 (by decide) (hts (.fieldLink RX7 19 "SummitTime" "told" "LSummitTime$Told;") (by decide +kernel)) (fun _ h9 => h9) rfl dX7_areTwo_1 ?_
  refine lv_iload_n hx hb dX7_areTwo_4 rfl (lv_at hl 1 rfl) ?_
  refine vp_callSi (va_Run.run (va_runV (As := [.int pe]) (rest := []) ⟨hx, hb, hml, hown, hts⟩ (c_X6_knows l D cI cL cZ ad A tx td dr dy lb pn ps ks si kb pe ) (cwV 1 hts gX7_areTwo_X6_knows rfl rfl rfl (by decide +kernel) ⟨Nat.le_of_ble_eq_true rfl, Nat.le_of_ble_eq_true rfl⟩) ⟨sR_fb, va_recv hK hP (ci := 6) (q0 := 3) rfl rfl, sR_at hP hK hD hE⟩ rfl rfl hl.1 rfl (lv_room (Nat.le_of_ble_eq_true rfl)) dX7_areTwo_5 ⟨Nat.zero_le _, Nat.zero_le _⟩)) (fun r hr => ?_)
  subst hr
  refine mv_phi (v := (if (f_X6_knows td pe) = 0 then nI 0 else (if (f_X6_knows td ot) = 0 then nI 0 else (if pe = ot then nI 0 else nI 1)))) (pcj := 32) (ls := ls) (rest' := []) ?_ (fun J_1 => ?_)
  · have hf : (f_X7_areTwo td pe ot) = (if (f_X6_knows td pe) = 0 then nI 0 else (if (f_X6_knows td ot) = 0 then nI 0 else (if pe = ot then nI 0 else nI 1))) := by rw [f_X7_areTwo]
    exact W.zret (v := (if (f_X6_knows td pe) = 0 then nI 0 else (if (f_X6_knows td ot) = 0 then nI 0 else (if pe = ot then nI 0 else nI 1)))) (ty := .boolean) hx hb hr (by (repeat' split) <;> rfl) (fun t ht hW => ⟨(if (f_X6_knows td pe) = 0 then nI 0 else (if (f_X6_knows td ot) = 0 then nI 0 else (if pe = ot then nI 0 else nI 1))), rfl, hf.symm, ht⟩) (fun _ h => by cases h) dX7_areTwo_32
  · refine lv_if_eq (tgt := 31) hx hb dX7_areTwo_8 (by decide) (fun c_2 => ?_) (fun c_2 => ?_)
    · refine lv_iconst (v := nI 0) hx hb dX7_areTwo_31 rfl ?_
      exact J_1 _ (by rw [if_pos c_2])
    · refine lv_aload_n hx hb dX7_areTwo_11 rfl (lv_at hl 0 rfl) ?_
      refine va_get (D := D) (ci := 7) (v := .ref (ad 3)) (C := RX7) (T := TX7) (N := 9) hx hb hts (by decide +kernel) hown hK hP 0 rfl rfl 1 (by decide) (hts (.fieldLink RX7 19 "SummitTime" "told" "LSummitTime$Told;") (by decide +kernel)) (fun _ h9 => h9) rfl dX7_areTwo_12 ?_
      refine lv_iload_n hx hb dX7_areTwo_15 rfl (lv_at hl 2 rfl) ?_
      refine vp_callSi (va_Run.run (va_runV (As := [.int ot]) (rest := []) ⟨hx, hb, hml, hown, hts⟩ (c_X6_knows l D cI cL cZ ad A tx td dr dy lb pn ps ks si kb ot ) (cwV 1 hts gX7_areTwo_X6_knows rfl rfl rfl (by decide +kernel) ⟨Nat.le_of_ble_eq_true rfl, Nat.le_of_ble_eq_true rfl⟩) ⟨sR_fb, va_recv hK hP (ci := 6) (q0 := 3) rfl rfl, sR_at hP hK hD hE⟩ rfl rfl hl.1 rfl (lv_room (Nat.le_of_ble_eq_true rfl)) dX7_areTwo_16 ⟨Nat.zero_le _, Nat.zero_le _⟩)) (fun r hr => ?_)
      subst hr
      refine lv_if_eq (tgt := 31) hx hb dX7_areTwo_19 (by decide) (fun c_3 => ?_) (fun c_3 => ?_)
      · refine lv_iconst (v := nI 0) hx hb dX7_areTwo_31 rfl ?_
        exact J_1 _ (by rw [if_neg c_2, if_pos c_3])
      · refine lv_iload_n hx hb dX7_areTwo_22 rfl (lv_at hl 1 rfl) ?_
        refine lv_iload_n hx hb dX7_areTwo_23 rfl (lv_at hl 2 rfl) ?_
        refine lv_icmp_eq (tgt := 31) hx hb dX7_areTwo_24 (by decide) (fun c_4 => ?_) (fun c_4 => ?_)
        · refine lv_iconst (v := nI 0) hx hb dX7_areTwo_31 rfl ?_
          exact J_1 _ (by rw [if_neg c_2, if_neg c_3, if_pos c_4])
        · refine lv_iconst (v := nI 1) hx hb dX7_areTwo_27 rfl ?_
          refine lv_goto (tgt := 32) hx hb dX7_areTwo_28 (by decide) ?_
          exact J_1 _ (by rw [if_neg c_2, if_neg c_3, if_neg c_4])
def f_X7_standsNow (td : XTd) (dy : XDy) (pe : Int32) : Int64 := (f_X1_stands td pe (f_X0_startOf dy pe) dy.2.2.2)
abbrev rm_X7_standsNow : Room := { frames := 2, cells := 0, slots := 0, locals := 46 }
set_option maxHeartbeats 4000000 in
set_option maxRecDepth 100000 in
theorem c_X7_standsNow (l : Launch) (D : va_G) (cI cL cZ : ClassId) (ad : Nat → Nat) (A : Nat → Prop) (tx : XTx) (td : XTd) (dr : XTd) (dy : XDy) (lb : (Nat → Int32)) (pn : (Nat × Nat)) (ps : XSh) (ks : XSh) (si : XSi) (kb : Int32) (pe : Int32)  : Met l yX7_standsNow wsX7_standsNow rm_X7_standsNow (va_Pc [.ref (ad 0), .int pe] (sR D cI cL cZ A (xW cI cL cZ ad tx td dr dy lb pn ps ks si kb))) (vp_Sl (fun r => r = (f_X7_standsNow td dy pe))) 0 0 (fun _ => False) := by
  refine Met.ofW (cc := cX7_standsNow) (maxL := 2) (ret := (some .long)) (by decide) rfl ?_
  intro p e s m args below meth c s₁ B hml hv
  obtain ⟨rfl, hP, hK, hD, hE⟩ := hv
  have hx := B.exec
  have hb := B.bytes
  have hr := B.returns
  have hts := atoms_spec (ws := wsX7_standsNow) B.pre
  have hown : s.vm.findClass RX7 = some m.cls := findClass_of_methodNamed B.named
  have hlocks := B.notSynchronized
  have hl := lv_entry ([.ref (ad 0), .int pe]) (n := 2) (Nat.le_of_ble_eq_true rfl)
  rw [lg_entry_eq]
  generalize (lg_sl ([.ref (ad 0), .int pe]) ++ List.replicate (2 - (lg_sl ([.ref (ad 0), .int pe])).length) Slot.unset).toArray = ls at hl ⊢
  have hl : lv_has ls 2 [(0, .ref (ad 0)), (1, .int pe)] := hl
  refine lv_aload_n hx hb dX7_standsNow_0 rfl (lv_at hl 0 rfl) ?_
  refine va_get (D := D) (ci := 7) (v := .ref (ad 18)) (C := RX7) (T := TX7) (N := 9) hx hb hts (by decide +kernel) hown hK hP 0 rfl rfl 4 (by decide) (hts (.fieldLink RX7 38 "SummitTime" "ledger" "LSummitTime$Ledger;") (by decide +kernel)) (fun _ h9 => h9) rfl dX7_standsNow_1 ?_
  refine lv_iload_n hx hb dX7_standsNow_4 rfl (lv_at hl 1 rfl) ?_
  refine lv_aload_n hx hb dX7_standsNow_5 rfl (lv_at hl 0 rfl) ?_
  refine va_get (D := D) (ci := 7) (v := .ref (ad 15)) (C := RX7) (T := TX7) (N := 9) hx hb hts (by decide +kernel) hown hK hP 0 rfl rfl 3 (by decide) (hts (.fieldLink RX7 29 "SummitTime" "day" "LSummitTime$Day;") (by decide +kernel)) (fun _ h9 => h9) rfl dX7_standsNow_6 ?_
  refine lv_iload_n hx hb dX7_standsNow_9 rfl (lv_at hl 1 rfl) ?_
  refine vp_callSi (va_Run.run (va_runV (As := [.int pe]) (rest := [.int pe, .ref (ad 18)]) ⟨hx, hb, hml, hown, hts⟩ (c_X0_startOf l D cI cL cZ ad A tx td dr dy lb pn ps ks si kb pe ) (cwV 1 hts gX7_standsNow_X0_startOf rfl rfl rfl (by decide +kernel) ⟨Nat.le_of_ble_eq_true rfl, Nat.le_of_ble_eq_true rfl⟩) ⟨sR_fb, va_recv hK hP (ci := 0) (q0 := 15) rfl rfl, sR_at hP hK hD hE⟩ rfl rfl hl.1 rfl (lv_room (Nat.le_of_ble_eq_true rfl)) dX7_standsNow_10 ⟨Nat.zero_le _, Nat.zero_le _⟩)) (fun r hr => ?_)
  subst hr
  refine lv_aload_n hx hb dX7_standsNow_13 rfl (lv_at hl 0 rfl) ?_
  refine va_get (D := D) (ci := 7) (v := .ref (ad 15)) (C := RX7) (T := TX7) (N := 9) hx hb hts (by decide +kernel) hown hK hP 0 rfl rfl 3 (by decide) (hts (.fieldLink RX7 29 "SummitTime" "day" "LSummitTime$Day;") (by decide +kernel)) (fun _ h9 => h9) rfl dX7_standsNow_14 ?_
  refine va_getN (D := D) (ci := 0) (v := .int dy.2.2.2) (C := RX0) (T := TX0) (N := 4) hx hb hts (by decide +kernel) hown hK hP 15 rfl rfl 3 (by decide) (va_Nw.use rfl hE.2.2.2.2.2.2.2.2.2.2.2.2.1) (fun _ h9 => h9) rfl dX7_standsNow_17 ?_
  refine vp_callSl (va_Run.run (va_runV (As := [.int pe, .int (f_X0_startOf dy pe), .int dy.2.2.2]) (rest := []) ⟨hx, hb, hml, hown, hts⟩ (c_X1_stands l D cI cL cZ ad A tx td dr dy lb pn ps ks si kb pe (f_X0_startOf dy pe) dy.2.2.2 ) (cwV 3 hts gX7_standsNow_X1_stands rfl rfl rfl (by decide +kernel) ⟨Nat.le_of_ble_eq_true rfl, Nat.le_of_ble_eq_true rfl⟩) ⟨sR_fb, va_recv hK hP (ci := 1) (q0 := 18) rfl rfl, sR_at hP hK hD hE⟩ rfl rfl hl.1 rfl (lv_room (Nat.le_of_ble_eq_true rfl)) dX7_standsNow_20 ⟨Nat.zero_le _, Nat.zero_le _⟩)) (fun r hr => ?_)
  subst hr
  have hf : (f_X7_standsNow td dy pe) = (f_X1_stands td pe (f_X0_startOf dy pe) dy.2.2.2) := by rw [f_X7_standsNow]
  exact W.lret (v := (f_X1_stands td pe (f_X0_startOf dy pe) dy.2.2.2)) hx hb hr (fun t ht hW => ⟨(f_X1_stands td pe (f_X0_startOf dy pe) dy.2.2.2), rfl, hf.symm, ht⟩) (fun _ h => by cases h) dX7_standsNow_23
def f_X7_firstStood (td : XTd) (dy : XDy) (pe : Int32) : Int32 := (if (lg_cmp (f_X7_standsNow td dy pe) (0 : Int64)) = 0 then (-1 : Int32) else (((f_X0_startOf dy pe) + (f_X6_walkOf td pe)) + dy.2.2.2))
abbrev rm_X7_firstStood : Room := { frames := 3, cells := 0, slots := 0, locals := 67 }
set_option maxHeartbeats 4000000 in
set_option maxRecDepth 100000 in
theorem c_X7_firstStood (l : Launch) (D : va_G) (cI cL cZ : ClassId) (ad : Nat → Nat) (A : Nat → Prop) (tx : XTx) (td : XTd) (dr : XTd) (dy : XDy) (lb : (Nat → Int32)) (pn : (Nat × Nat)) (ps : XSh) (ks : XSh) (si : XSi) (kb : Int32) (pe : Int32)  : Met l yX7_firstStood wsX7_firstStood rm_X7_firstStood (va_Pc [.ref (ad 0), .int pe] (sR D cI cL cZ A (xW cI cL cZ ad tx td dr dy lb pn ps ks si kb))) (vp_Si (fun r => r = (f_X7_firstStood td dy pe))) 0 0 (fun _ => False) := by
  refine Met.ofW (cc := cX7_firstStood) (maxL := 2) (ret := (some .int)) (by decide) rfl ?_
  intro p e s m args below meth c s₁ B hml hv
  obtain ⟨rfl, hP, hK, hD, hE⟩ := hv
  have hx := B.exec
  have hb := B.bytes
  have hr := B.returns
  have hts := atoms_spec (ws := wsX7_firstStood) B.pre
  have hown : s.vm.findClass RX7 = some m.cls := findClass_of_methodNamed B.named
  have hlocks := B.notSynchronized
  have hl := lv_entry ([.ref (ad 0), .int pe]) (n := 2) (Nat.le_of_ble_eq_true rfl)
  rw [lg_entry_eq]
  generalize (lg_sl ([.ref (ad 0), .int pe]) ++ List.replicate (2 - (lg_sl ([.ref (ad 0), .int pe])).length) Slot.unset).toArray = ls at hl ⊢
  have hl : lv_has ls 2 [(0, .ref (ad 0)), (1, .int pe)] := hl
  refine lv_aload_n hx hb dX7_firstStood_0 rfl (lv_at hl 0 rfl) ?_
  refine lv_iload_n hx hb dX7_firstStood_1 rfl (lv_at hl 1 rfl) ?_
  refine vp_callSl (va_Run.run (va_runV (As := [.int pe]) (rest := []) ⟨hx, hb, hml, hown, hts⟩ (c_X7_standsNow l D cI cL cZ ad A tx td dr dy lb pn ps ks si kb pe ) (cwV 1 hts gX7_firstStood_X7_standsNow rfl rfl rfl (by decide +kernel) ⟨Nat.le_of_ble_eq_true rfl, Nat.le_of_ble_eq_true rfl⟩) ⟨sR_fb, va_recv hK hP (ci := 7) (q0 := 0) rfl rfl, sR_at hP hK hD hE⟩ rfl rfl hl.1 rfl (lv_room (Nat.le_of_ble_eq_true rfl)) dX7_firstStood_2 ⟨Nat.zero_le _, Nat.zero_le _⟩)) (fun r hr => ?_)
  subst hr
  refine lv_lconst (v := 0) hx hb dX7_firstStood_5 rfl ?_
  refine W.lcmp hx hb dX7_firstStood_6 ?_
  refine lv_if_ne (tgt := 12) hx hb dX7_firstStood_7 (by decide) (fun c_1 => ?_) (fun c_1 => ?_)
  · refine lv_aload_n hx hb dX7_firstStood_12 rfl (lv_at hl 0 rfl) ?_
    refine va_get (D := D) (ci := 7) (v := .ref (ad 15)) (C := RX7) (T := TX7) (N := 9) hx hb hts (by decide +kernel) hown hK hP 0 rfl rfl 3 (by decide) (hts (.fieldLink RX7 29 "SummitTime" "day" "LSummitTime$Day;") (by decide +kernel)) (fun _ h9 => h9) rfl dX7_firstStood_13 ?_
    refine lv_iload_n hx hb dX7_firstStood_16 rfl (lv_at hl 1 rfl) ?_
    refine vp_callSi (va_Run.run (va_runV (As := [.int pe]) (rest := []) ⟨hx, hb, hml, hown, hts⟩ (c_X0_startOf l D cI cL cZ ad A tx td dr dy lb pn ps ks si kb pe ) (cwV 1 hts gX7_firstStood_X0_startOf rfl rfl rfl (by decide +kernel) ⟨Nat.le_of_ble_eq_true rfl, Nat.le_of_ble_eq_true rfl⟩) ⟨sR_fb, va_recv hK hP (ci := 0) (q0 := 15) rfl rfl, sR_at hP hK hD hE⟩ rfl rfl hl.1 rfl (lv_room (Nat.le_of_ble_eq_true rfl)) dX7_firstStood_17 ⟨Nat.zero_le _, Nat.zero_le _⟩)) (fun r hr => ?_)
    subst hr
    refine lv_aload_n hx hb dX7_firstStood_20 rfl (lv_at hl 0 rfl) ?_
    refine va_get (D := D) (ci := 7) (v := .ref (ad 3)) (C := RX7) (T := TX7) (N := 9) hx hb hts (by decide +kernel) hown hK hP 0 rfl rfl 1 (by decide) (hts (.fieldLink RX7 19 "SummitTime" "told" "LSummitTime$Told;") (by decide +kernel)) (fun _ h9 => h9) rfl dX7_firstStood_21 ?_
    refine lv_iload_n hx hb dX7_firstStood_24 rfl (lv_at hl 1 rfl) ?_
    refine vp_callSi (va_Run.run (va_runV (As := [.int pe]) (rest := [.int (f_X0_startOf dy pe)]) ⟨hx, hb, hml, hown, hts⟩ (c_X6_walkOf l D cI cL cZ ad A tx td dr dy lb pn ps ks si kb pe ) (cwV 1 hts gX7_firstStood_X6_walkOf rfl rfl rfl (by decide +kernel) ⟨Nat.le_of_ble_eq_true rfl, Nat.le_of_ble_eq_true rfl⟩) ⟨sR_fb, va_recv hK hP (ci := 6) (q0 := 3) rfl rfl, sR_at hP hK hD hE⟩ rfl rfl hl.1 rfl (lv_room (Nat.le_of_ble_eq_true rfl)) dX7_firstStood_25 ⟨Nat.zero_le _, Nat.zero_le _⟩)) (fun r hr => ?_)
    subst hr
    refine lv_iadd hx hb dX7_firstStood_28 ?_
    refine lv_aload_n hx hb dX7_firstStood_29 rfl (lv_at hl 0 rfl) ?_
    refine va_get (D := D) (ci := 7) (v := .ref (ad 15)) (C := RX7) (T := TX7) (N := 9) hx hb hts (by decide +kernel) hown hK hP 0 rfl rfl 3 (by decide) (hts (.fieldLink RX7 29 "SummitTime" "day" "LSummitTime$Day;") (by decide +kernel)) (fun _ h9 => h9) rfl dX7_firstStood_30 ?_
    refine va_getN (D := D) (ci := 0) (v := .int dy.2.2.2) (C := RX0) (T := TX0) (N := 4) hx hb hts (by decide +kernel) hown hK hP 15 rfl rfl 3 (by decide) (va_Nw.use rfl hE.2.2.2.2.2.2.2.2.2.2.2.2.1) (fun _ h9 => h9) rfl dX7_firstStood_33 ?_
    refine lv_iadd hx hb dX7_firstStood_36 ?_
    have hf : (f_X7_firstStood td dy pe) = (((f_X0_startOf dy pe) + (f_X6_walkOf td pe)) + dy.2.2.2) := by rw [f_X7_firstStood, if_neg c_1]
    exact W.iret (v := (((f_X0_startOf dy pe) + (f_X6_walkOf td pe)) + dy.2.2.2)) hx hb hr (fun t ht hW => ⟨(((f_X0_startOf dy pe) + (f_X6_walkOf td pe)) + dy.2.2.2), rfl, hf.symm, ht⟩) (fun _ h => by cases h) dX7_firstStood_37
  · refine lv_iconst (v := (-1)) hx hb dX7_firstStood_10 rfl ?_
    have hf : (f_X7_firstStood td dy pe) = (-1 : Int32) := by rw [f_X7_firstStood, if_pos c_1]
    exact W.iret (v := (-1 : Int32)) hx hb hr (fun t ht hW => ⟨(-1 : Int32), rfl, hf.symm, ht⟩) (fun _ h => by cases h) dX7_firstStood_11
def L_X7_whoStandIn_4 (td : XTd) (dy : XDy) (sec : Int32) : Nat → Nat → Int32 → Int32
  | 0, _, x2_4 => x2_4
  | n_4 + 1, k_4, x2_4 => (if (lg_cmp ((f_X7_standsNow td dy (nI k_4)) &&& ((1 : Int64) <<< (sec.toInt64 &&& 63))) (0 : Int64)) = 0 then (L_X7_whoStandIn_4 td dy sec n_4 (k_4 + 1) x2_4) else (L_X7_whoStandIn_4 td dy sec n_4 (k_4 + 1) (x2_4 ||| ((nI 1) <<< ((nI k_4) &&& 31)))))
def f_X7_whoStandIn (td : XTd) (dy : XDy) (sec : Int32) : Int32 := (L_X7_whoStandIn_4 td dy sec td.2.2.2.2.2.1 0 (nI 0))
abbrev rm_X7_whoStandIn : Room := { frames := 3, cells := 0, slots := 0, locals := 67 }
set_option maxHeartbeats 4000000 in
set_option maxRecDepth 100000 in
theorem c_X7_whoStandIn (l : Launch) (D : va_G) (cI cL cZ : ClassId) (ad : Nat → Nat) (A : Nat → Prop) (tx : XTx) (td : XTd) (dr : XTd) (dy : XDy) (lb : (Nat → Int32)) (pn : (Nat × Nat)) (ps : XSh) (ks : XSh) (si : XSi) (kb : Int32) (sec : Int32) (hpe : td.2.2.2.2.2.1 ≤ 6) : Met l yX7_whoStandIn wsX7_whoStandIn rm_X7_whoStandIn (va_Pc [.ref (ad 0), .int sec] (sR D cI cL cZ A (xW cI cL cZ ad tx td dr dy lb pn ps ks si kb))) (vp_Si (fun r => r = (f_X7_whoStandIn td dy sec))) 0 0 (fun _ => False) := by
  refine Met.ofW (cc := cX7_whoStandIn) (maxL := 4) (ret := (some .int)) (by decide) rfl ?_
  intro p e s m args below meth c s₁ B hml hv
  obtain ⟨rfl, hP, hK, hD, hE⟩ := hv
  have hx := B.exec
  have hb := B.bytes
  have hr := B.returns
  have hts := atoms_spec (ws := wsX7_whoStandIn) B.pre
  have hown : s.vm.findClass RX7 = some m.cls := findClass_of_methodNamed B.named
  have hlocks := B.notSynchronized
  have hl := lv_entry ([.ref (ad 0), .int sec]) (n := 4) (Nat.le_of_ble_eq_true rfl)
  rw [lg_entry_eq]
  generalize (lg_sl ([.ref (ad 0), .int sec]) ++ List.replicate (4 - (lg_sl ([.ref (ad 0), .int sec])).length) Slot.unset).toArray = ls at hl ⊢
  have hl : lv_has ls 4 [(0, .ref (ad 0)), (1, .int sec)] := hl
  obtain ⟨Q, hQe⟩ : ∃ Q, Q = MQ below (vp_Si (fun r => r = (f_X7_whoStandIn td dy sec))) ([.ref (ad 0), .int sec] : List Value).toArray s 0 0 (fun _ => False) := ⟨_, rfl⟩
  show W p l e (headSpec wsX7_whoStandIn rm_X7_whoStandIn).room s m ([.ref (ad 0), .int sec] : List Value).toArray below meth c s.heap [] 0 0 (MQ below (vp_Si (fun r => r = (f_X7_whoStandIn td dy sec))) ([.ref (ad 0), .int sec] : List Value).toArray s 0 0 (fun _ => False)) (F0 m 0 ls [])
  rw [← hQe]
  refine lv_iconst (v := nI 0) hx hb dX7_whoStandIn_0 rfl ?_
  refine lv_istore_n (lv' := [(2, .int (nI 0)), (0, .ref (ad 0)), (1, .int sec)]) hx hb dX7_whoStandIn_1 rfl hl (by decide) rfl (fun ls hl => ?_)
  refine lv_iconst (v := nI 0) hx hb dX7_whoStandIn_2 rfl ?_
  refine lv_istore_n (lv' := [(3, .int (nI 0)), (2, .int (nI 0)), (0, .ref (ad 0)), (1, .int sec)]) hx hb dX7_whoStandIn_3 rfl hl (by decide) rfl (fun ls hl => ?_)
  obtain ⟨T_4_1, hT_4_1⟩ : ∃ z, z = (L_X7_whoStandIn_4 td dy sec td.2.2.2.2.2.1 0 (nI 0)) := ⟨_, rfl⟩
  have hexit_4 : ∀ (ls : Array Slot), lv_has ls 4 [(2, .int T_4_1), (0, .ref (ad 0)), (1, .int sec)] → W p l e (headSpec wsX7_whoStandIn rm_X7_whoStandIn).room s m ([.ref (ad 0), .int sec] : List Value).toArray below meth c s.heap [] 0 0 Q (F0 m 41 ls []) := by
    intro ls hl
    refine lv_iload_n hx hb dX7_whoStandIn_41 rfl (lv_at hl 0 rfl) ?_
    subst hQe
    have hf : (f_X7_whoStandIn td dy sec) = T_4_1 := by rw [f_X7_whoStandIn]; (try rw [← hT_4_1]); first | done | rfl
    exact W.iret (v := T_4_1) hx hb hr (fun t ht hW => ⟨T_4_1, rfl, hf.symm, ht⟩) (fun _ h => by cases h) dX7_whoStandIn_42
  have loop_4 : ∀ (n_4 : Nat) (k_4 : Nat) (x2_4 : Int32), (k_4 + n_4 = td.2.2.2.2.2.1) → L_X7_whoStandIn_4 td dy sec n_4 k_4 x2_4 = T_4_1 → ∀ (ls : Array Slot), lv_has ls 4 [(3, .int (nI k_4)), (2, .int x2_4), (0, .ref (ad 0)), (1, .int sec)] → W p l e (headSpec wsX7_whoStandIn rm_X7_whoStandIn).room s m ([.ref (ad 0), .int sec] : List Value).toArray below meth c s.heap [] 0 0 Q (F0 m 4 ls []) := by
    intro n_4
    induction n_4 with
    | zero =>
      intro k_4 x2_4 hk_4 hL_4 ls hl
      refine lv_iload_n hx hb dX7_whoStandIn_4 rfl (lv_at hl 0 rfl) ?_
      refine lv_aload_n hx hb dX7_whoStandIn_5 rfl (lv_at hl 2 rfl) ?_
      refine va_get (D := D) (ci := 7) (v := .ref (ad 3)) (C := RX7) (T := TX7) (N := 9) hx hb hts (by decide +kernel) hown hK hP 0 rfl rfl 1 (by decide) (hts (.fieldLink RX7 19 "SummitTime" "told" "LSummitTime$Told;") (by decide +kernel)) (fun _ h9 => h9) rfl dX7_whoStandIn_6 ?_
      refine va_getN (D := D) (ci := 6) (v := .int (nI td.2.2.2.2.2.1)) (C := RX6) (T := TX6) (N := 7) hx hb hts (by decide +kernel) hown hK hP 3 rfl rfl 5 (by decide) (va_Nw.use rfl hE.2.2.2.2.2.2.2.2.2.2.2.2.2.2.1) (fun _ h9 => h9) rfl dX7_whoStandIn_9 ?_
      refine mv_icmp_ge (tgt := 41) hx hb dX7_whoStandIn_12 (by decide) (by omega) (by omega) (fun c_3 => ?_) (fun c_3 => (by omega : False).elim)
      have e9 : T_4_1 = x2_4 := by rw [← hL_4, L_X7_whoStandIn_4]
      have hq := hexit_4
      rw [e9] at hq
      exact hq ls  (lv_sub hl [1, 2, 3] rfl)
    | succ n_4 ih_4 =>
      intro k_4 x2_4 hk_4 hL_4 ls hl
      refine lv_iload_n hx hb dX7_whoStandIn_4 rfl (lv_at hl 0 rfl) ?_
      refine lv_aload_n hx hb dX7_whoStandIn_5 rfl (lv_at hl 2 rfl) ?_
      refine va_get (D := D) (ci := 7) (v := .ref (ad 3)) (C := RX7) (T := TX7) (N := 9) hx hb hts (by decide +kernel) hown hK hP 0 rfl rfl 1 (by decide) (hts (.fieldLink RX7 19 "SummitTime" "told" "LSummitTime$Told;") (by decide +kernel)) (fun _ h9 => h9) rfl dX7_whoStandIn_6 ?_
      refine va_getN (D := D) (ci := 6) (v := .int (nI td.2.2.2.2.2.1)) (C := RX6) (T := TX6) (N := 7) hx hb hts (by decide +kernel) hown hK hP 3 rfl rfl 5 (by decide) (va_Nw.use rfl hE.2.2.2.2.2.2.2.2.2.2.2.2.2.2.1) (fun _ h9 => h9) rfl dX7_whoStandIn_9 ?_
      refine mv_icmp_ge (tgt := 41) hx hb dX7_whoStandIn_12 (by decide) (by omega) (by omega) (fun c_1 => (by omega : False).elim) (fun c_1 => ?_)
      refine lv_aload_n hx hb dX7_whoStandIn_15 rfl (lv_at hl 2 rfl) ?_
      refine lv_iload_n hx hb dX7_whoStandIn_16 rfl (lv_at hl 0 rfl) ?_
      refine vp_callSl (va_Run.run (va_runV (As := [.int (nI k_4)]) (rest := []) ⟨hx, hb, hml, hown, hts⟩ (c_X7_standsNow l D cI cL cZ ad A tx td dr dy lb pn ps ks si kb (nI k_4) ) (cwV 1 hts gX7_whoStandIn_X7_standsNow rfl rfl rfl (by decide +kernel) ⟨Nat.le_of_ble_eq_true rfl, Nat.le_of_ble_eq_true rfl⟩) ⟨sR_fb, va_recv hK hP (ci := 7) (q0 := 0) rfl rfl, sR_at hP hK hD hE⟩ rfl rfl hl.1 rfl (lv_room (Nat.le_of_ble_eq_true rfl)) dX7_whoStandIn_17 ⟨Nat.zero_le _, Nat.zero_le _⟩)) (fun r hr => ?_)
      subst hr
      refine lv_lconst (v := 1) hx hb dX7_whoStandIn_20 rfl ?_
      refine lv_iload_n hx hb dX7_whoStandIn_21 rfl (lv_at hl 3 rfl) ?_
      refine lv_lshl hx hb dX7_whoStandIn_22 rfl ?_
      refine lv_land hx hb dX7_whoStandIn_23 ?_
      refine lv_lconst (v := 0) hx hb dX7_whoStandIn_24 rfl ?_
      refine W.lcmp hx hb dX7_whoStandIn_25 ?_
      refine lv_if_eq (tgt := 35) hx hb dX7_whoStandIn_26 (by decide) (fun c_2 => ?_) (fun c_2 => ?_)
      · refine mv_iinc (y := k_4 + 1) (lv' := [(3, .int (nI (k_4 + 1))), (2, .int x2_4), (0, .ref (ad 0)), (1, .int sec)]) hx hb dX7_whoStandIn_35 hl (k := 0) rfl (nI_p1 _) (by decide) rfl (fun ls hl => ?_)
        refine lv_goto (tgt := 4) hx hb dX7_whoStandIn_38 (by decide) ?_
        exact ih_4 (k_4 + 1) x2_4 (by omega) (by have e9 := hL_4; rw [L_X7_whoStandIn_4, if_pos c_2] at e9; exact e9) ls (lv_sub hl [0, 1, 2, 3] rfl)
      · refine lv_iload_n hx hb dX7_whoStandIn_29 rfl (lv_at hl 1 rfl) ?_
        refine lv_iconst (v := nI 1) hx hb dX7_whoStandIn_30 rfl ?_
        refine lv_iload_n hx hb dX7_whoStandIn_31 rfl (lv_at hl 0 rfl) ?_
        refine lv_ishl hx hb dX7_whoStandIn_32 ?_
        refine lv_ior hx hb dX7_whoStandIn_33 ?_
        refine lv_istore_n (lv' := [(2, .int (x2_4 ||| ((nI 1) <<< ((nI k_4) &&& 31)))), (3, .int (nI k_4)), (0, .ref (ad 0)), (1, .int sec)]) hx hb dX7_whoStandIn_34 rfl hl (by decide) rfl (fun ls hl => ?_)
        refine mv_iinc (y := k_4 + 1) (lv' := [(3, .int (nI (k_4 + 1))), (2, .int (x2_4 ||| ((nI 1) <<< ((nI k_4) &&& 31)))), (0, .ref (ad 0)), (1, .int sec)]) hx hb dX7_whoStandIn_35 hl (k := 1) rfl (nI_p1 _) (by decide) rfl (fun ls hl => ?_)
        refine lv_goto (tgt := 4) hx hb dX7_whoStandIn_38 (by decide) ?_
        exact ih_4 (k_4 + 1) (x2_4 ||| ((nI 1) <<< ((nI k_4) &&& 31))) (by omega) (by have e9 := hL_4; rw [L_X7_whoStandIn_4, if_neg c_2] at e9; exact e9) ls (lv_sub hl [0, 1, 2, 3] rfl)
  exact loop_4 td.2.2.2.2.2.1 0 (nI 0) (by omega) hT_4_1.symm ls (lv_sub hl [0, 1, 2, 3] rfl)
def L_X7_finesOfAll_4 (td : XTd) (dy : XDy) : Nat → Nat → Int32 → Int32
  | 0, _, x1_4 => x1_4
  | n_4 + 1, k_4, x1_4 => (L_X7_finesOfAll_4 td dy n_4 (k_4 + 1) (x1_4 + (f_X1_fine td dy (nI k_4) dy.2.2.2)))
def f_X7_finesOfAll (td : XTd) (dy : XDy) : Int32 := (L_X7_finesOfAll_4 td dy td.2.2.2.2.2.1 0 (nI 0))
abbrev rm_X7_finesOfAll : Room := { frames := 5, cells := 0, slots := 0, locals := 121 }
set_option maxHeartbeats 4000000 in
set_option maxRecDepth 100000 in
theorem c_X7_finesOfAll (l : Launch) (D : va_G) (cI cL cZ : ClassId) (ad : Nat → Nat) (A : Nat → Prop) (tx : XTx) (td : XTd) (dr : XTd) (dy : XDy) (lb : (Nat → Int32)) (pn : (Nat × Nat)) (ps : XSh) (ks : XSh) (si : XSi) (kb : Int32)  (hpe : td.2.2.2.2.2.1 ≤ 6) : Met l yX7_finesOfAll wsX7_finesOfAll rm_X7_finesOfAll (va_Pc [.ref (ad 0)] (sR D cI cL cZ A (xW cI cL cZ ad tx td dr dy lb pn ps ks si kb))) (vp_Si (fun r => r = (f_X7_finesOfAll td dy))) 0 0 (fun _ => False) := by
  refine Met.ofW (cc := cX7_finesOfAll) (maxL := 3) (ret := (some .int)) (by decide) rfl ?_
  intro p e s m args below meth c s₁ B hml hv
  obtain ⟨rfl, hP, hK, hD, hE⟩ := hv
  have hx := B.exec
  have hb := B.bytes
  have hr := B.returns
  have hts := atoms_spec (ws := wsX7_finesOfAll) B.pre
  have hown : s.vm.findClass RX7 = some m.cls := findClass_of_methodNamed B.named
  have hlocks := B.notSynchronized
  have hl := lv_entry ([.ref (ad 0)]) (n := 3) (Nat.le_of_ble_eq_true rfl)
  rw [lg_entry_eq]
  generalize (lg_sl ([.ref (ad 0)]) ++ List.replicate (3 - (lg_sl ([.ref (ad 0)])).length) Slot.unset).toArray = ls at hl ⊢
  have hl : lv_has ls 3 [(0, .ref (ad 0))] := hl
  obtain ⟨Q, hQe⟩ : ∃ Q, Q = MQ below (vp_Si (fun r => r = (f_X7_finesOfAll td dy))) ([.ref (ad 0)] : List Value).toArray s 0 0 (fun _ => False) := ⟨_, rfl⟩
  show W p l e (headSpec wsX7_finesOfAll rm_X7_finesOfAll).room s m ([.ref (ad 0)] : List Value).toArray below meth c s.heap [] 0 0 (MQ below (vp_Si (fun r => r = (f_X7_finesOfAll td dy))) ([.ref (ad 0)] : List Value).toArray s 0 0 (fun _ => False)) (F0 m 0 ls [])
  rw [← hQe]
  refine lv_iconst (v := nI 0) hx hb dX7_finesOfAll_0 rfl ?_
  refine lv_istore_n (lv' := [(1, .int (nI 0)), (0, .ref (ad 0))]) hx hb dX7_finesOfAll_1 rfl hl (by decide) rfl (fun ls hl => ?_)
  refine lv_iconst (v := nI 0) hx hb dX7_finesOfAll_2 rfl ?_
  refine lv_istore_n (lv' := [(2, .int (nI 0)), (1, .int (nI 0)), (0, .ref (ad 0))]) hx hb dX7_finesOfAll_3 rfl hl (by decide) rfl (fun ls hl => ?_)
  obtain ⟨T_4_1, hT_4_1⟩ : ∃ z, z = (L_X7_finesOfAll_4 td dy td.2.2.2.2.2.1 0 (nI 0)) := ⟨_, rfl⟩
  have hexit_4 : ∀ (ls : Array Slot), lv_has ls 3 [(1, .int T_4_1), (0, .ref (ad 0))] → W p l e (headSpec wsX7_finesOfAll rm_X7_finesOfAll).room s m ([.ref (ad 0)] : List Value).toArray below meth c s.heap [] 0 0 Q (F0 m 39 ls []) := by
    intro ls hl
    refine lv_iload_n hx hb dX7_finesOfAll_39 rfl (lv_at hl 0 rfl) ?_
    subst hQe
    have hf : (f_X7_finesOfAll td dy) = T_4_1 := by rw [f_X7_finesOfAll]; (try rw [← hT_4_1]); first | done | rfl
    exact W.iret (v := T_4_1) hx hb hr (fun t ht hW => ⟨T_4_1, rfl, hf.symm, ht⟩) (fun _ h => by cases h) dX7_finesOfAll_40
  have loop_4 : ∀ (n_4 : Nat) (k_4 : Nat) (x1_4 : Int32), (k_4 + n_4 = td.2.2.2.2.2.1) → L_X7_finesOfAll_4 td dy n_4 k_4 x1_4 = T_4_1 → ∀ (ls : Array Slot), lv_has ls 3 [(2, .int (nI k_4)), (1, .int x1_4), (0, .ref (ad 0))] → W p l e (headSpec wsX7_finesOfAll rm_X7_finesOfAll).room s m ([.ref (ad 0)] : List Value).toArray below meth c s.heap [] 0 0 Q (F0 m 4 ls []) := by
    intro n_4
    induction n_4 with
    | zero =>
      intro k_4 x1_4 hk_4 hL_4 ls hl
      refine lv_iload_n hx hb dX7_finesOfAll_4 rfl (lv_at hl 0 rfl) ?_
      refine lv_aload_n hx hb dX7_finesOfAll_5 rfl (lv_at hl 2 rfl) ?_
      refine va_get (D := D) (ci := 7) (v := .ref (ad 3)) (C := RX7) (T := TX7) (N := 9) hx hb hts (by decide +kernel) hown hK hP 0 rfl rfl 1 (by decide) (hts (.fieldLink RX7 19 "SummitTime" "told" "LSummitTime$Told;") (by decide +kernel)) (fun _ h9 => h9) rfl dX7_finesOfAll_6 ?_
      refine va_getN (D := D) (ci := 6) (v := .int (nI td.2.2.2.2.2.1)) (C := RX6) (T := TX6) (N := 7) hx hb hts (by decide +kernel) hown hK hP 3 rfl rfl 5 (by decide) (va_Nw.use rfl hE.2.2.2.2.2.2.2.2.2.2.2.2.2.2.1) (fun _ h9 => h9) rfl dX7_finesOfAll_9 ?_
      refine mv_icmp_ge (tgt := 39) hx hb dX7_finesOfAll_12 (by decide) (by omega) (by omega) (fun c_2 => ?_) (fun c_2 => (by omega : False).elim)
      have e9 : T_4_1 = x1_4 := by rw [← hL_4, L_X7_finesOfAll_4]
      have hq := hexit_4
      rw [e9] at hq
      exact hq ls  (lv_sub hl [1, 2] rfl)
    | succ n_4 ih_4 =>
      intro k_4 x1_4 hk_4 hL_4 ls hl
      refine lv_iload_n hx hb dX7_finesOfAll_4 rfl (lv_at hl 0 rfl) ?_
      refine lv_aload_n hx hb dX7_finesOfAll_5 rfl (lv_at hl 2 rfl) ?_
      refine va_get (D := D) (ci := 7) (v := .ref (ad 3)) (C := RX7) (T := TX7) (N := 9) hx hb hts (by decide +kernel) hown hK hP 0 rfl rfl 1 (by decide) (hts (.fieldLink RX7 19 "SummitTime" "told" "LSummitTime$Told;") (by decide +kernel)) (fun _ h9 => h9) rfl dX7_finesOfAll_6 ?_
      refine va_getN (D := D) (ci := 6) (v := .int (nI td.2.2.2.2.2.1)) (C := RX6) (T := TX6) (N := 7) hx hb hts (by decide +kernel) hown hK hP 3 rfl rfl 5 (by decide) (va_Nw.use rfl hE.2.2.2.2.2.2.2.2.2.2.2.2.2.2.1) (fun _ h9 => h9) rfl dX7_finesOfAll_9 ?_
      refine mv_icmp_ge (tgt := 39) hx hb dX7_finesOfAll_12 (by decide) (by omega) (by omega) (fun c_1 => (by omega : False).elim) (fun c_1 => ?_)
      refine lv_iload_n hx hb dX7_finesOfAll_15 rfl (lv_at hl 1 rfl) ?_
      refine lv_aload_n hx hb dX7_finesOfAll_16 rfl (lv_at hl 2 rfl) ?_
      refine va_get (D := D) (ci := 7) (v := .ref (ad 18)) (C := RX7) (T := TX7) (N := 9) hx hb hts (by decide +kernel) hown hK hP 0 rfl rfl 4 (by decide) (hts (.fieldLink RX7 38 "SummitTime" "ledger" "LSummitTime$Ledger;") (by decide +kernel)) (fun _ h9 => h9) rfl dX7_finesOfAll_17 ?_
      refine lv_iload_n hx hb dX7_finesOfAll_20 rfl (lv_at hl 0 rfl) ?_
      refine lv_aload_n hx hb dX7_finesOfAll_21 rfl (lv_at hl 2 rfl) ?_
      refine va_get (D := D) (ci := 7) (v := .ref (ad 15)) (C := RX7) (T := TX7) (N := 9) hx hb hts (by decide +kernel) hown hK hP 0 rfl rfl 3 (by decide) (hts (.fieldLink RX7 29 "SummitTime" "day" "LSummitTime$Day;") (by decide +kernel)) (fun _ h9 => h9) rfl dX7_finesOfAll_22 ?_
      refine va_getN (D := D) (ci := 0) (v := .int dy.2.2.2) (C := RX0) (T := TX0) (N := 4) hx hb hts (by decide +kernel) hown hK hP 15 rfl rfl 3 (by decide) (va_Nw.use rfl hE.2.2.2.2.2.2.2.2.2.2.2.2.1) (fun _ h9 => h9) rfl dX7_finesOfAll_25 ?_
      refine vp_callSi (va_Run.run (va_runV (As := [.int (nI k_4), .int dy.2.2.2]) (rest := [.int x1_4]) ⟨hx, hb, hml, hown, hts⟩ (c_X1_fine l D cI cL cZ ad A tx td dr dy lb pn ps ks si kb (nI k_4) dy.2.2.2 (by first | assumption | omega)) (cwV 2 hts gX7_finesOfAll_X1_fine rfl rfl rfl (by decide +kernel) ⟨Nat.le_of_ble_eq_true rfl, Nat.le_of_ble_eq_true rfl⟩) ⟨sR_fb, va_recv hK hP (ci := 1) (q0 := 18) rfl rfl, sR_at hP hK hD hE⟩ rfl rfl hl.1 rfl (lv_room (Nat.le_of_ble_eq_true rfl)) dX7_finesOfAll_28 ⟨Nat.zero_le _, Nat.zero_le _⟩)) (fun r hr => ?_)
      subst hr
      refine lv_iadd hx hb dX7_finesOfAll_31 ?_
      refine lv_istore_n (lv' := [(1, .int (x1_4 + (f_X1_fine td dy (nI k_4) dy.2.2.2))), (2, .int (nI k_4)), (0, .ref (ad 0))]) hx hb dX7_finesOfAll_32 rfl hl (by decide) rfl (fun ls hl => ?_)
      refine mv_iinc (y := k_4 + 1) (lv' := [(2, .int (nI (k_4 + 1))), (1, .int (x1_4 + (f_X1_fine td dy (nI k_4) dy.2.2.2))), (0, .ref (ad 0))]) hx hb dX7_finesOfAll_33 hl (k := 1) rfl (nI_p1 _) (by decide) rfl (fun ls hl => ?_)
      refine lv_goto (tgt := 4) hx hb dX7_finesOfAll_36 (by decide) ?_
      exact ih_4 (k_4 + 1) (x1_4 + (f_X1_fine td dy (nI k_4) dy.2.2.2)) (by omega) (by have e9 := hL_4; rw [L_X7_finesOfAll_4] at e9; exact e9) ls (lv_sub hl [0, 1, 2] rfl)
  exact loop_4 td.2.2.2.2.2.1 0 (nI 0) (by omega) hT_4_1.symm ls (lv_sub hl [0, 1, 2] rfl)
def f_X7_write (tx : XTx) (le : Int32) : Int32 × XTx := (if (f_X7_isWithin le (nI 0) (nI 255)) = 0 then ((-3 : Int32), tx) else ((if (f_X5_add tx le).1 = 0 then (-5 : Int32) else (f_X5_size (f_X5_add tx le).2)), (f_X5_add tx le).2))
abbrev rm_X7_write : Room := { frames := 1, cells := 0, slots := 0, locals := 22 }
set_option maxHeartbeats 4000000 in
set_option maxRecDepth 100000 in
theorem c_X7_write (l : Launch) (D : va_G) (cI cL cZ : ClassId) (ad : Nat → Nat) (A : Nat → Prop) (tx : XTx) (td : XTd) (dr : XTd) (dy : XDy) (lb : (Nat → Int32)) (pn : (Nat × Nat)) (ps : XSh) (ks : XSh) (si : XSi) (kb : Int32) (le : Int32) (hl0 : tx.2.1 ≤ 160) : Met l yX7_write wsX7_write rm_X7_write (va_Pc [.ref (ad 0), .int le] (sR D cI cL cZ A (xW cI cL cZ ad tx td dr dy lb pn ps ks si kb))) (va_Qi (fun (r : Int32) (u : XTx) => r = (f_X7_write tx le).1 ∧ u = (f_X7_write tx le).2) (fun (u : XTx) t => va_P D vwCl (xW cI cL cZ ad u td dr dy lb pn ps ks si kb) t.heap) A) 0 0 A := by
  refine Met.ofW (cc := cX7_write) (maxL := 2) (ret := (some .int)) (by decide) rfl ?_
  intro p e s m args below meth c s₁ B hml hv
  obtain ⟨rfl, hP, hK, hD, hE⟩ := hv
  have hx := B.exec
  have hb := B.bytes
  have hr := B.returns
  have hts := atoms_spec (ws := wsX7_write) B.pre
  have hown : s.vm.findClass RX7 = some m.cls := findClass_of_methodNamed B.named
  have hlocks := B.notSynchronized
  have hS : va_S A s.heap s.heap [] := va_S.rf
  have hl := lv_entry ([.ref (ad 0), .int le]) (n := 2) (Nat.le_of_ble_eq_true rfl)
  rw [lg_entry_eq]
  generalize (lg_sl ([.ref (ad 0), .int le]) ++ List.replicate (2 - (lg_sl ([.ref (ad 0), .int le])).length) Slot.unset).toArray = ls at hl ⊢
  have hl : lv_has ls 2 [(0, .ref (ad 0)), (1, .int le)] := hl
  refine lv_iload_n hx hb dX7_write_0 rfl (lv_at hl 1 rfl) ?_
  refine lv_iconst (v := nI 0) hx hb dX7_write_1 rfl ?_
  refine lv_sipush (v := nI 255) hx hb dX7_write_2 rfl ?_
  refine vp_callSi (va_Run.run (va_runS (As := [.int le, .int (nI 0), .int (nI 255)]) (rest := []) ⟨hx, hb, hml, hown, hts⟩ (c_X7_isWithin l le (nI 0) (nI 255) ) (va_cwS 3 hts gX7_write_X7_isWithin rfl rfl rfl (by decide +kernel) ⟨Nat.le_of_ble_eq_true rfl, Nat.le_of_ble_eq_true rfl⟩) ⟨pR_fb, pR_at⟩ rfl rfl hl.1 rfl (lv_room (Nat.le_of_ble_eq_true rfl)) dX7_write_5 ⟨Nat.zero_le _, Nat.zero_le _⟩)) (fun r hr => ?_)
  subst hr
  refine lv_if_ne (tgt := 14) hx hb dX7_write_8 (by decide) (fun c_1 => ?_) (fun c_1 => ?_)
  · refine lv_aload_n hx hb dX7_write_14 rfl (lv_at hl 0 rfl) ?_
    refine va_get (D := D) (ci := 7) (v := .ref (ad 1)) (C := RX7) (T := TX7) (N := 9) hx hb hts (by decide +kernel) hown hK hP 0 rfl rfl 0 (by decide) (hts (.fieldLink RX7 10 "SummitTime" "text" "LSummitTime$Text;") (by decide +kernel)) (fun _ h9 => h9) rfl dX7_write_15 ?_
    refine lv_iload_n hx hb dX7_write_18 rfl (lv_at hl 1 rfl) ?_
    refine va_calli (va_runV (As := [.int le]) (rest := []) ⟨hx, hb, hml, hown, hts⟩ (c_X5_add l D cI cL cZ ad A tx td dr dy lb pn ps ks si kb le (by first | assumption | omega)) (cwV 1 hts gX7_write_X5_add rfl rfl rfl (by decide +kernel) ⟨Nat.le_of_ble_eq_true rfl, Nat.le_of_ble_eq_true rfl⟩) ⟨sR_fb, va_recv hK hP (ci := 5) (q0 := 1) rfl rfl, sR_at hP hK hD hE⟩ rfl rfl hl.1 rfl (lv_room (Nat.le_of_ble_eq_true rfl)) dX7_write_19 ⟨Nat.zero_le _, Nat.zero_le _⟩) hS (fun q _ h => h) (fun q h => h) (fun T_199999_1 T_19_1 t H locs ht hvm hw hB hz1 hk1 hS => ?_)
    obtain ⟨hT_199999_1, hT_19_1⟩ := hw
    rw [ht] at hB
    have hP : va_P D vwCl (xW cI cL cZ ad T_19_1 td dr dy lb pn ps ks si kb) H := hB
    have hD : va_D A (xW cI cL cZ ad T_19_1 td dr dy lb pn ps ks si kb) := xW_D hD
    refine mv_phi (v := (if T_199999_1 = 0 then (-5 : Int32) else (f_X5_size T_19_1))) (pcj := 37) (ls := ls) (rest' := []) ?_ (fun J_2 => ?_)
    · have hf : (f_X7_write tx le) = ((if T_199999_1 = 0 then (-5 : Int32) else (f_X5_size T_19_1)), T_19_1) := by rw [f_X7_write]; (try rw [← hT_199999_1]); (try rw [← hT_19_1]); first | done | rw [if_neg c_1]
      have hf1 : (if T_199999_1 = 0 then (-5 : Int32) else (f_X5_size T_19_1)) = (f_X7_write tx le).1 := by rw [hf]
      have hf2 : T_19_1 = (f_X7_write tx le).2 := by rw [hf]
      exact W.iret (v := (if T_199999_1 = 0 then (-5 : Int32) else (f_X5_size T_19_1))) hx hb hr (fun t ht hW => ⟨⟨(if T_199999_1 = 0 then (-5 : Int32) else (f_X5_size T_19_1)), T_19_1, rfl, ⟨hf1, hf2⟩, va_Pt ht hP⟩, hS.F ht⟩) hS.2.2 dX7_write_37
    · refine lv_if_eq (tgt := 35) hx hb dX7_write_22 (by decide) (fun c_3 => ?_) (fun c_3 => ?_)
      · refine lv_bipush (v := (-5)) hx hb dX7_write_35 rfl ?_
        exact J_2 _ (by rw [if_pos c_3])
      · refine lv_aload_n hx hb dX7_write_25 rfl (lv_at hl 0 rfl) ?_
        refine va_get (D := D) (ci := 7) (v := .ref (ad 1)) (C := RX7) (T := TX7) (N := 9) hx hb hts (by decide +kernel) hown hK hP 0 rfl rfl 0 (by decide) (hts (.fieldLink RX7 10 "SummitTime" "text" "LSummitTime$Text;") (by decide +kernel)) (fun _ h9 => h9) rfl dX7_write_26 ?_
        refine vp_callSi (va_Run.run (va_runV (As := []) (rest := []) ⟨hx, hb, hml, hown, hts⟩ (c_X5_size l D cI cL cZ ad A T_19_1 td dr dy lb pn ps ks si kb  ) (cwV 0 hts gX7_write_X5_size rfl rfl rfl (by decide +kernel) ⟨Nat.le_of_ble_eq_true rfl, Nat.le_of_ble_eq_true rfl⟩) ⟨sR_fb, va_recv hK hP (ci := 5) (q0 := 1) rfl rfl, sR_at hP hK hD hE⟩ rfl rfl hl.1 rfl (lv_room (Nat.le_of_ble_eq_true rfl)) dX7_write_29 ⟨Nat.zero_le _, Nat.zero_le _⟩)) (fun r hr => ?_)
        subst hr
        refine lv_goto (tgt := 37) hx hb dX7_write_32 (by decide) ?_
        exact J_2 _ (by rw [if_neg c_3])
  · refine lv_bipush (v := (-3)) hx hb dX7_write_11 rfl ?_
    have hf : (f_X7_write tx le) = ((-3 : Int32), tx) := by rw [f_X7_write, if_pos c_1]
    have hf1 : (-3 : Int32) = (f_X7_write tx le).1 := by rw [hf]
    have hf2 : tx = (f_X7_write tx le).2 := by rw [hf]
    exact W.iret (v := (-3 : Int32)) hx hb hr (fun t ht hW => ⟨⟨(-3 : Int32), tx, rfl, ⟨hf1, hf2⟩, va_Pt ht hP⟩, hS.F ht⟩) hS.2.2 dX7_write_13
def f_X7_erase (tx : XTx) : Int32 × XTx := ((f_X5_size tx), (f_X5_empty tx))
abbrev rm_X7_erase : Room := { frames := 1, cells := 0, slots := 0, locals := 20 }
set_option maxHeartbeats 4000000 in
set_option maxRecDepth 100000 in
theorem c_X7_erase (l : Launch) (D : va_G) (cI cL cZ : ClassId) (ad : Nat → Nat) (A : Nat → Prop) (tx : XTx) (td : XTd) (dr : XTd) (dy : XDy) (lb : (Nat → Int32)) (pn : (Nat × Nat)) (ps : XSh) (ks : XSh) (si : XSi) (kb : Int32)   : Met l yX7_erase wsX7_erase rm_X7_erase (va_Pc [.ref (ad 0)] (sR D cI cL cZ A (xW cI cL cZ ad tx td dr dy lb pn ps ks si kb))) (va_Qi (fun (r : Int32) (u : XTx) => r = (f_X7_erase tx).1 ∧ u = (f_X7_erase tx).2) (fun (u : XTx) t => va_P D vwCl (xW cI cL cZ ad u td dr dy lb pn ps ks si kb) t.heap) A) 0 0 A := by
  refine Met.ofW (cc := cX7_erase) (maxL := 2) (ret := (some .int)) (by decide) rfl ?_
  intro p e s m args below meth c s₁ B hml hv
  obtain ⟨rfl, hP, hK, hD, hE⟩ := hv
  have hx := B.exec
  have hb := B.bytes
  have hr := B.returns
  have hts := atoms_spec (ws := wsX7_erase) B.pre
  have hown : s.vm.findClass RX7 = some m.cls := findClass_of_methodNamed B.named
  have hlocks := B.notSynchronized
  have hS : va_S A s.heap s.heap [] := va_S.rf
  have hl := lv_entry ([.ref (ad 0)]) (n := 2) (Nat.le_of_ble_eq_true rfl)
  rw [lg_entry_eq]
  generalize (lg_sl ([.ref (ad 0)]) ++ List.replicate (2 - (lg_sl ([.ref (ad 0)])).length) Slot.unset).toArray = ls at hl ⊢
  have hl : lv_has ls 2 [(0, .ref (ad 0))] := hl
  refine lv_aload_n hx hb dX7_erase_0 rfl (lv_at hl 0 rfl) ?_
  refine va_get (D := D) (ci := 7) (v := .ref (ad 1)) (C := RX7) (T := TX7) (N := 9) hx hb hts (by decide +kernel) hown hK hP 0 rfl rfl 0 (by decide) (hts (.fieldLink RX7 10 "SummitTime" "text" "LSummitTime$Text;") (by decide +kernel)) (fun _ h9 => h9) rfl dX7_erase_1 ?_
  refine vp_callSi (va_Run.run (va_runV (As := []) (rest := []) ⟨hx, hb, hml, hown, hts⟩ (c_X5_size l D cI cL cZ ad A tx td dr dy lb pn ps ks si kb  ) (cwV 0 hts gX7_erase_X5_size rfl rfl rfl (by decide +kernel) ⟨Nat.le_of_ble_eq_true rfl, Nat.le_of_ble_eq_true rfl⟩) ⟨sR_fb, va_recv hK hP (ci := 5) (q0 := 1) rfl rfl, sR_at hP hK hD hE⟩ rfl rfl hl.1 rfl (lv_room (Nat.le_of_ble_eq_true rfl)) dX7_erase_4 ⟨Nat.zero_le _, Nat.zero_le _⟩)) (fun r hr => ?_)
  subst hr
  refine lv_istore_n (lv' := [(1, .int (f_X5_size tx)), (0, .ref (ad 0))]) hx hb dX7_erase_7 rfl hl (by decide) rfl (fun ls hl => ?_)
  refine lv_aload_n hx hb dX7_erase_8 rfl (lv_at hl 1 rfl) ?_
  refine va_get (D := D) (ci := 7) (v := .ref (ad 1)) (C := RX7) (T := TX7) (N := 9) hx hb hts (by decide +kernel) hown hK hP 0 rfl rfl 0 (by decide) (hts (.fieldLink RX7 10 "SummitTime" "text" "LSummitTime$Text;") (by decide +kernel)) (fun _ h9 => h9) rfl dX7_erase_9 ?_
  refine va_callv (va_runV (As := []) (rest := []) ⟨hx, hb, hml, hown, hts⟩ (c_X5_empty l D cI cL cZ ad A tx td dr dy lb pn ps ks si kb  ) (cwV 0 hts gX7_erase_X5_empty rfl rfl rfl (by decide +kernel) ⟨Nat.le_of_ble_eq_true rfl, Nat.le_of_ble_eq_true rfl⟩) ⟨sR_fb, va_recv hK hP (ci := 5) (q0 := 1) rfl rfl, sR_at hP hK hD hE⟩ rfl rfl hl.1 rfl (lv_room (Nat.le_of_ble_eq_true rfl)) dX7_erase_12 ⟨Nat.zero_le _, Nat.zero_le _⟩) hS (fun q _ h => h) (fun q h => h) (fun u t H locs ht hvm hw hB hz1 hk1 hS => ?_)
  subst hw
  rw [ht] at hB
  have hP : va_P D vwCl (xW cI cL cZ ad (f_X5_empty tx) td dr dy lb pn ps ks si kb) H := hB
  have hD : va_D A (xW cI cL cZ ad (f_X5_empty tx) td dr dy lb pn ps ks si kb) := xW_D hD
  refine lv_iload_n hx hb dX7_erase_15 rfl (lv_at hl 0 rfl) ?_
  have hf : (f_X7_erase tx) = ((f_X5_size tx), (f_X5_empty tx)) := by rw [f_X7_erase]
  have hf1 : (f_X5_size tx) = (f_X7_erase tx).1 := by rw [hf]
  have hf2 : (f_X5_empty tx) = (f_X7_erase tx).2 := by rw [hf]
  exact W.iret (v := (f_X5_size tx)) hx hb hr (fun t ht hW => ⟨⟨(f_X5_size tx), (f_X5_empty tx), rfl, ⟨hf1, hf2⟩, va_Pt ht hP⟩, hS.F ht⟩) hS.2.2 dX7_erase_16
def f_X7_person (td : XTd) (dy : XDy) (pe : Int32) (wh : Int32) : Int32 := (if (f_X6_knows td pe) = 0 then (-2 : Int32) else (if wh = nI 0 then (f_X6_kindOf td pe) else (if wh = nI 1 then (f_X6_paceOf td pe) else (if wh = nI 2 then (f_X6_stayOf td pe) else (if wh = nI 3 then (f_X6_rentOf td pe) else (if wh = nI 4 then (f_X0_startOf dy pe) else (if wh = nI 5 then (if (f_X0_isRoped dy pe) = 0 then nI 0 else nI 1) else (if wh = nI 6 then (f_X7_firstStood td dy pe) else (if wh = nI 7 then (f_J13_bitCount_95d88 (f_X7_standsNow td dy pe)) else (if wh = nI 8 then (f_X1_fine td dy pe dy.2.2.2) else (if wh = nI 9 then (f_J13_bitCount_95d88 (f_X0_landOf dy pe)) else (-3 : Int32))))))))))))
abbrev rm_X7_person : Room := { frames := 5, cells := 0, slots := 0, locals := 121 }
set_option maxHeartbeats 4000000 in
set_option maxRecDepth 100000 in
theorem c_X7_person (l : Launch) (D : va_G) (cI cL cZ : ClassId) (ad : Nat → Nat) (A : Nat → Prop) (tx : XTx) (td : XTd) (dr : XTd) (dy : XDy) (lb : (Nat → Int32)) (pn : (Nat × Nat)) (ps : XSh) (ks : XSh) (si : XSi) (kb : Int32) (pe : Int32) (wh : Int32) (hpe : td.2.2.2.2.2.1 ≤ 6) : Met l yX7_person wsX7_person rm_X7_person (va_Pc [.ref (ad 0), .int pe, .int wh] (sR D cI cL cZ A (xW cI cL cZ ad tx td dr dy lb pn ps ks si kb))) (vp_Si (fun r => r = (f_X7_person td dy pe wh))) 0 0 (fun _ => False) := by
  refine Met.ofW (cc := cX7_person) (maxL := 3) (ret := (some .int)) (by decide) rfl ?_
  intro p e s m args below meth c s₁ B hml hv
  obtain ⟨rfl, hP, hK, hD, hE⟩ := hv
  have hx := B.exec
  have hb := B.bytes
  have hr := B.returns
  have hts := atoms_spec (ws := wsX7_person) B.pre
  have hown : s.vm.findClass RX7 = some m.cls := findClass_of_methodNamed B.named
  have hlocks := B.notSynchronized
  have hl := lv_entry ([.ref (ad 0), .int pe, .int wh]) (n := 3) (Nat.le_of_ble_eq_true rfl)
  rw [lg_entry_eq]
  generalize (lg_sl ([.ref (ad 0), .int pe, .int wh]) ++ List.replicate (3 - (lg_sl ([.ref (ad 0), .int pe, .int wh])).length) Slot.unset).toArray = ls at hl ⊢
  have hl : lv_has ls 3 [(0, .ref (ad 0)), (1, .int pe), (2, .int wh)] := hl
  refine lv_aload_n hx hb dX7_person_0 rfl (lv_at hl 0 rfl) ?_
  refine va_get (D := D) (ci := 7) (v := .ref (ad 3)) (C := RX7) (T := TX7) (N := 9) hx hb hts (by decide +kernel) hown hK hP 0 rfl rfl 1 (by decide) (hts (.fieldLink RX7 19 "SummitTime" "told" "LSummitTime$Told;") (by decide +kernel)) (fun _ h9 => h9) rfl dX7_person_1 ?_
  refine lv_iload_n hx hb dX7_person_4 rfl (lv_at hl 1 rfl) ?_
  refine vp_callSi (va_Run.run (va_runV (As := [.int pe]) (rest := []) ⟨hx, hb, hml, hown, hts⟩ (c_X6_knows l D cI cL cZ ad A tx td dr dy lb pn ps ks si kb pe ) (cwV 1 hts gX7_person_X6_knows rfl rfl rfl (by decide +kernel) ⟨Nat.le_of_ble_eq_true rfl, Nat.le_of_ble_eq_true rfl⟩) ⟨sR_fb, va_recv hK hP (ci := 6) (q0 := 3) rfl rfl, sR_at hP hK hD hE⟩ rfl rfl hl.1 rfl (lv_room (Nat.le_of_ble_eq_true rfl)) dX7_person_5 ⟨Nat.zero_le _, Nat.zero_le _⟩)) (fun r hr => ?_)
  subst hr
  refine lv_if_ne (tgt := 14) hx hb dX7_person_8 (by decide) (fun c_1 => ?_) (fun c_1 => ?_)
  · refine lv_iload_n hx hb dX7_person_14 rfl (lv_at hl 2 rfl) ?_
    by_cases c_2 : wh = nI 0
    · refine lv_tableIn (off := 53) (tgt := 68) hx hb dX7_person_15 (by rw [c_2]; decide) (by rw [c_2]; decide) (by rw [c_2]; decide) (by decide) ?_
      refine lv_aload_n hx hb dX7_person_68 rfl (lv_at hl 0 rfl) ?_
      refine va_get (D := D) (ci := 7) (v := .ref (ad 3)) (C := RX7) (T := TX7) (N := 9) hx hb hts (by decide +kernel) hown hK hP 0 rfl rfl 1 (by decide) (hts (.fieldLink RX7 19 "SummitTime" "told" "LSummitTime$Told;") (by decide +kernel)) (fun _ h9 => h9) rfl dX7_person_69 ?_
      refine lv_iload_n hx hb dX7_person_72 rfl (lv_at hl 1 rfl) ?_
      refine vp_callSi (va_Run.run (va_runV (As := [.int pe]) (rest := []) ⟨hx, hb, hml, hown, hts⟩ (c_X6_kindOf l D cI cL cZ ad A tx td dr dy lb pn ps ks si kb pe ) (cwV 1 hts gX7_person_X6_kindOf rfl rfl rfl (by decide +kernel) ⟨Nat.le_of_ble_eq_true rfl, Nat.le_of_ble_eq_true rfl⟩) ⟨sR_fb, va_recv hK hP (ci := 6) (q0 := 3) rfl rfl, sR_at hP hK hD hE⟩ rfl rfl hl.1 rfl (lv_room (Nat.le_of_ble_eq_true rfl)) dX7_person_73 ⟨Nat.zero_le _, Nat.zero_le _⟩)) (fun r hr => ?_)
      subst hr
      have hf : (f_X7_person td dy pe wh) = (f_X6_kindOf td pe) := by rw [f_X7_person, if_neg c_1, if_pos c_2]
      exact W.iret (v := (f_X6_kindOf td pe)) hx hb hr (fun t ht hW => ⟨(f_X6_kindOf td pe), rfl, hf.symm, ht⟩) (fun _ h => by cases h) dX7_person_76
    · by_cases c_3 : wh = nI 1
      · refine lv_tableIn (off := 62) (tgt := 77) hx hb dX7_person_15 (by rw [c_3]; decide) (by rw [c_3]; decide) (by rw [c_3]; decide) (by decide) ?_
        refine lv_aload_n hx hb dX7_person_77 rfl (lv_at hl 0 rfl) ?_
        refine va_get (D := D) (ci := 7) (v := .ref (ad 3)) (C := RX7) (T := TX7) (N := 9) hx hb hts (by decide +kernel) hown hK hP 0 rfl rfl 1 (by decide) (hts (.fieldLink RX7 19 "SummitTime" "told" "LSummitTime$Told;") (by decide +kernel)) (fun _ h9 => h9) rfl dX7_person_78 ?_
        refine lv_iload_n hx hb dX7_person_81 rfl (lv_at hl 1 rfl) ?_
        refine vp_callSi (va_Run.run (va_runV (As := [.int pe]) (rest := []) ⟨hx, hb, hml, hown, hts⟩ (c_X6_paceOf l D cI cL cZ ad A tx td dr dy lb pn ps ks si kb pe ) (cwV 1 hts gX7_person_X6_paceOf rfl rfl rfl (by decide +kernel) ⟨Nat.le_of_ble_eq_true rfl, Nat.le_of_ble_eq_true rfl⟩) ⟨sR_fb, va_recv hK hP (ci := 6) (q0 := 3) rfl rfl, sR_at hP hK hD hE⟩ rfl rfl hl.1 rfl (lv_room (Nat.le_of_ble_eq_true rfl)) dX7_person_82 ⟨Nat.zero_le _, Nat.zero_le _⟩)) (fun r hr => ?_)
        subst hr
        have hf : (f_X7_person td dy pe wh) = (f_X6_paceOf td pe) := by rw [f_X7_person, if_neg c_1, if_neg c_2, if_pos c_3]
        exact W.iret (v := (f_X6_paceOf td pe)) hx hb hr (fun t ht hW => ⟨(f_X6_paceOf td pe), rfl, hf.symm, ht⟩) (fun _ h => by cases h) dX7_person_85
      · by_cases c_4 : wh = nI 2
        · refine lv_tableIn (off := 71) (tgt := 86) hx hb dX7_person_15 (by rw [c_4]; decide) (by rw [c_4]; decide) (by rw [c_4]; decide) (by decide) ?_
          refine lv_aload_n hx hb dX7_person_86 rfl (lv_at hl 0 rfl) ?_
          refine va_get (D := D) (ci := 7) (v := .ref (ad 3)) (C := RX7) (T := TX7) (N := 9) hx hb hts (by decide +kernel) hown hK hP 0 rfl rfl 1 (by decide) (hts (.fieldLink RX7 19 "SummitTime" "told" "LSummitTime$Told;") (by decide +kernel)) (fun _ h9 => h9) rfl dX7_person_87 ?_
          refine lv_iload_n hx hb dX7_person_90 rfl (lv_at hl 1 rfl) ?_
          refine vp_callSi (va_Run.run (va_runV (As := [.int pe]) (rest := []) ⟨hx, hb, hml, hown, hts⟩ (c_X6_stayOf l D cI cL cZ ad A tx td dr dy lb pn ps ks si kb pe ) (cwV 1 hts gX7_person_X6_stayOf rfl rfl rfl (by decide +kernel) ⟨Nat.le_of_ble_eq_true rfl, Nat.le_of_ble_eq_true rfl⟩) ⟨sR_fb, va_recv hK hP (ci := 6) (q0 := 3) rfl rfl, sR_at hP hK hD hE⟩ rfl rfl hl.1 rfl (lv_room (Nat.le_of_ble_eq_true rfl)) dX7_person_91 ⟨Nat.zero_le _, Nat.zero_le _⟩)) (fun r hr => ?_)
          subst hr
          have hf : (f_X7_person td dy pe wh) = (f_X6_stayOf td pe) := by rw [f_X7_person, if_neg c_1, if_neg c_2, if_neg c_3, if_pos c_4]
          exact W.iret (v := (f_X6_stayOf td pe)) hx hb hr (fun t ht hW => ⟨(f_X6_stayOf td pe), rfl, hf.symm, ht⟩) (fun _ h => by cases h) dX7_person_94
        · by_cases c_5 : wh = nI 3
          · refine lv_tableIn (off := 80) (tgt := 95) hx hb dX7_person_15 (by rw [c_5]; decide) (by rw [c_5]; decide) (by rw [c_5]; decide) (by decide) ?_
            refine lv_aload_n hx hb dX7_person_95 rfl (lv_at hl 0 rfl) ?_
            refine va_get (D := D) (ci := 7) (v := .ref (ad 3)) (C := RX7) (T := TX7) (N := 9) hx hb hts (by decide +kernel) hown hK hP 0 rfl rfl 1 (by decide) (hts (.fieldLink RX7 19 "SummitTime" "told" "LSummitTime$Told;") (by decide +kernel)) (fun _ h9 => h9) rfl dX7_person_96 ?_
            refine lv_iload_n hx hb dX7_person_99 rfl (lv_at hl 1 rfl) ?_
            refine vp_callSi (va_Run.run (va_runV (As := [.int pe]) (rest := []) ⟨hx, hb, hml, hown, hts⟩ (c_X6_rentOf l D cI cL cZ ad A tx td dr dy lb pn ps ks si kb pe ) (cwV 1 hts gX7_person_X6_rentOf rfl rfl rfl (by decide +kernel) ⟨Nat.le_of_ble_eq_true rfl, Nat.le_of_ble_eq_true rfl⟩) ⟨sR_fb, va_recv hK hP (ci := 6) (q0 := 3) rfl rfl, sR_at hP hK hD hE⟩ rfl rfl hl.1 rfl (lv_room (Nat.le_of_ble_eq_true rfl)) dX7_person_100 ⟨Nat.zero_le _, Nat.zero_le _⟩)) (fun r hr => ?_)
            subst hr
            have hf : (f_X7_person td dy pe wh) = (f_X6_rentOf td pe) := by rw [f_X7_person, if_neg c_1, if_neg c_2, if_neg c_3, if_neg c_4, if_pos c_5]
            exact W.iret (v := (f_X6_rentOf td pe)) hx hb hr (fun t ht hW => ⟨(f_X6_rentOf td pe), rfl, hf.symm, ht⟩) (fun _ h => by cases h) dX7_person_103
          · by_cases c_6 : wh = nI 4
            · refine lv_tableIn (off := 89) (tgt := 104) hx hb dX7_person_15 (by rw [c_6]; decide) (by rw [c_6]; decide) (by rw [c_6]; decide) (by decide) ?_
              refine lv_aload_n hx hb dX7_person_104 rfl (lv_at hl 0 rfl) ?_
              refine va_get (D := D) (ci := 7) (v := .ref (ad 15)) (C := RX7) (T := TX7) (N := 9) hx hb hts (by decide +kernel) hown hK hP 0 rfl rfl 3 (by decide) (hts (.fieldLink RX7 29 "SummitTime" "day" "LSummitTime$Day;") (by decide +kernel)) (fun _ h9 => h9) rfl dX7_person_105 ?_
              refine lv_iload_n hx hb dX7_person_108 rfl (lv_at hl 1 rfl) ?_
              refine vp_callSi (va_Run.run (va_runV (As := [.int pe]) (rest := []) ⟨hx, hb, hml, hown, hts⟩ (c_X0_startOf l D cI cL cZ ad A tx td dr dy lb pn ps ks si kb pe ) (cwV 1 hts gX7_person_X0_startOf rfl rfl rfl (by decide +kernel) ⟨Nat.le_of_ble_eq_true rfl, Nat.le_of_ble_eq_true rfl⟩) ⟨sR_fb, va_recv hK hP (ci := 0) (q0 := 15) rfl rfl, sR_at hP hK hD hE⟩ rfl rfl hl.1 rfl (lv_room (Nat.le_of_ble_eq_true rfl)) dX7_person_109 ⟨Nat.zero_le _, Nat.zero_le _⟩)) (fun r hr => ?_)
              subst hr
              have hf : (f_X7_person td dy pe wh) = (f_X0_startOf dy pe) := by rw [f_X7_person, if_neg c_1, if_neg c_2, if_neg c_3, if_neg c_4, if_neg c_5, if_pos c_6]
              exact W.iret (v := (f_X0_startOf dy pe)) hx hb hr (fun t ht hW => ⟨(f_X0_startOf dy pe), rfl, hf.symm, ht⟩) (fun _ h => by cases h) dX7_person_112
            · by_cases c_7 : wh = nI 5
              · refine lv_tableIn (off := 98) (tgt := 113) hx hb dX7_person_15 (by rw [c_7]; decide) (by rw [c_7]; decide) (by rw [c_7]; decide) (by decide) ?_
                refine lv_aload_n hx hb dX7_person_113 rfl (lv_at hl 0 rfl) ?_
                refine va_get (D := D) (ci := 7) (v := .ref (ad 15)) (C := RX7) (T := TX7) (N := 9) hx hb hts (by decide +kernel) hown hK hP 0 rfl rfl 3 (by decide) (hts (.fieldLink RX7 29 "SummitTime" "day" "LSummitTime$Day;") (by decide +kernel)) (fun _ h9 => h9) rfl dX7_person_114 ?_
                refine lv_iload_n hx hb dX7_person_117 rfl (lv_at hl 1 rfl) ?_
                refine vp_callSi (va_Run.run (va_runV (As := [.int pe]) (rest := []) ⟨hx, hb, hml, hown, hts⟩ (c_X0_isRoped l D cI cL cZ ad A tx td dr dy lb pn ps ks si kb pe ) (cwV 1 hts gX7_person_X0_isRoped rfl rfl rfl (by decide +kernel) ⟨Nat.le_of_ble_eq_true rfl, Nat.le_of_ble_eq_true rfl⟩) ⟨sR_fb, va_recv hK hP (ci := 0) (q0 := 15) rfl rfl, sR_at hP hK hD hE⟩ rfl rfl hl.1 rfl (lv_room (Nat.le_of_ble_eq_true rfl)) dX7_person_118 ⟨Nat.zero_le _, Nat.zero_le _⟩)) (fun r hr => ?_)
                subst hr
                refine mv_phi (v := (if (f_X0_isRoped dy pe) = 0 then nI 0 else nI 1)) (pcj := 129) (ls := ls) (rest' := []) ?_ (fun J_8 => ?_)
                · have hf : (f_X7_person td dy pe wh) = (if (f_X0_isRoped dy pe) = 0 then nI 0 else nI 1) := by rw [f_X7_person, if_neg c_1, if_neg c_2, if_neg c_3, if_neg c_4, if_neg c_5, if_neg c_6, if_pos c_7]
                  exact W.iret (v := (if (f_X0_isRoped dy pe) = 0 then nI 0 else nI 1)) hx hb hr (fun t ht hW => ⟨(if (f_X0_isRoped dy pe) = 0 then nI 0 else nI 1), rfl, hf.symm, ht⟩) (fun _ h => by cases h) dX7_person_129
                · refine lv_if_eq (tgt := 128) hx hb dX7_person_121 (by decide) (fun c_9 => ?_) (fun c_9 => ?_)
                  · refine lv_iconst (v := nI 0) hx hb dX7_person_128 rfl ?_
                    exact J_8 _ (by rw [if_pos c_9])
                  · refine lv_iconst (v := nI 1) hx hb dX7_person_124 rfl ?_
                    refine lv_goto (tgt := 129) hx hb dX7_person_125 (by decide) ?_
                    exact J_8 _ (by rw [if_neg c_9])
              · by_cases c_10 : wh = nI 6
                · refine lv_tableIn (off := 115) (tgt := 130) hx hb dX7_person_15 (by rw [c_10]; decide) (by rw [c_10]; decide) (by rw [c_10]; decide) (by decide) ?_
                  refine lv_aload_n hx hb dX7_person_130 rfl (lv_at hl 0 rfl) ?_
                  refine lv_iload_n hx hb dX7_person_131 rfl (lv_at hl 1 rfl) ?_
                  refine vp_callSi (va_Run.run (va_runV (As := [.int pe]) (rest := []) ⟨hx, hb, hml, hown, hts⟩ (c_X7_firstStood l D cI cL cZ ad A tx td dr dy lb pn ps ks si kb pe ) (cwV 1 hts gX7_person_X7_firstStood rfl rfl rfl (by decide +kernel) ⟨Nat.le_of_ble_eq_true rfl, Nat.le_of_ble_eq_true rfl⟩) ⟨sR_fb, va_recv hK hP (ci := 7) (q0 := 0) rfl rfl, sR_at hP hK hD hE⟩ rfl rfl hl.1 rfl (lv_room (Nat.le_of_ble_eq_true rfl)) dX7_person_132 ⟨Nat.zero_le _, Nat.zero_le _⟩)) (fun r hr => ?_)
                  subst hr
                  have hf : (f_X7_person td dy pe wh) = (f_X7_firstStood td dy pe) := by rw [f_X7_person, if_neg c_1, if_neg c_2, if_neg c_3, if_neg c_4, if_neg c_5, if_neg c_6, if_neg c_7, if_pos c_10]
                  exact W.iret (v := (f_X7_firstStood td dy pe)) hx hb hr (fun t ht hW => ⟨(f_X7_firstStood td dy pe), rfl, hf.symm, ht⟩) (fun _ h => by cases h) dX7_person_135
                · by_cases c_11 : wh = nI 7
                  · refine lv_tableIn (off := 121) (tgt := 136) hx hb dX7_person_15 (by rw [c_11]; decide) (by rw [c_11]; decide) (by rw [c_11]; decide) (by decide) ?_
                    refine lv_aload_n hx hb dX7_person_136 rfl (lv_at hl 0 rfl) ?_
                    refine lv_iload_n hx hb dX7_person_137 rfl (lv_at hl 1 rfl) ?_
                    refine vp_callSl (va_Run.run (va_runV (As := [.int pe]) (rest := []) ⟨hx, hb, hml, hown, hts⟩ (c_X7_standsNow l D cI cL cZ ad A tx td dr dy lb pn ps ks si kb pe ) (cwV 1 hts gX7_person_X7_standsNow rfl rfl rfl (by decide +kernel) ⟨Nat.le_of_ble_eq_true rfl, Nat.le_of_ble_eq_true rfl⟩) ⟨sR_fb, va_recv hK hP (ci := 7) (q0 := 0) rfl rfl, sR_at hP hK hD hE⟩ rfl rfl hl.1 rfl (lv_room (Nat.le_of_ble_eq_true rfl)) dX7_person_138 ⟨Nat.zero_le _, Nat.zero_le _⟩)) (fun r hr => ?_)
                    subst hr
                    refine vp_callSi (va_Run.run (va_runS (As := [.long (f_X7_standsNow td dy pe)]) (rest := []) ⟨hx, hb, hml, hown, hts⟩ (c_J13_bitCount_95d88 l (f_X7_standsNow td dy pe) ) (va_cwS 1 hts gX7_person_J13_bitCount_95d88 rfl rfl rfl (by decide +kernel) ⟨Nat.le_of_ble_eq_true rfl, Nat.le_of_ble_eq_true rfl⟩) ⟨pR_fb, pR_at⟩ rfl rfl hl.1 rfl (lv_room (Nat.le_of_ble_eq_true rfl)) dX7_person_141 ⟨Nat.zero_le _, Nat.zero_le _⟩)) (fun r hr => ?_)
                    subst hr
                    have hf : (f_X7_person td dy pe wh) = (f_J13_bitCount_95d88 (f_X7_standsNow td dy pe)) := by rw [f_X7_person, if_neg c_1, if_neg c_2, if_neg c_3, if_neg c_4, if_neg c_5, if_neg c_6, if_neg c_7, if_neg c_10, if_pos c_11]
                    exact W.iret (v := (f_J13_bitCount_95d88 (f_X7_standsNow td dy pe))) hx hb hr (fun t ht hW => ⟨(f_J13_bitCount_95d88 (f_X7_standsNow td dy pe)), rfl, hf.symm, ht⟩) (fun _ h => by cases h) dX7_person_144
                  · by_cases c_12 : wh = nI 8
                    · refine lv_tableIn (off := 130) (tgt := 145) hx hb dX7_person_15 (by rw [c_12]; decide) (by rw [c_12]; decide) (by rw [c_12]; decide) (by decide) ?_
                      refine lv_aload_n hx hb dX7_person_145 rfl (lv_at hl 0 rfl) ?_
                      refine va_get (D := D) (ci := 7) (v := .ref (ad 18)) (C := RX7) (T := TX7) (N := 9) hx hb hts (by decide +kernel) hown hK hP 0 rfl rfl 4 (by decide) (hts (.fieldLink RX7 38 "SummitTime" "ledger" "LSummitTime$Ledger;") (by decide +kernel)) (fun _ h9 => h9) rfl dX7_person_146 ?_
                      refine lv_iload_n hx hb dX7_person_149 rfl (lv_at hl 1 rfl) ?_
                      refine lv_aload_n hx hb dX7_person_150 rfl (lv_at hl 0 rfl) ?_
                      refine va_get (D := D) (ci := 7) (v := .ref (ad 15)) (C := RX7) (T := TX7) (N := 9) hx hb hts (by decide +kernel) hown hK hP 0 rfl rfl 3 (by decide) (hts (.fieldLink RX7 29 "SummitTime" "day" "LSummitTime$Day;") (by decide +kernel)) (fun _ h9 => h9) rfl dX7_person_151 ?_
                      refine va_getN (D := D) (ci := 0) (v := .int dy.2.2.2) (C := RX0) (T := TX0) (N := 4) hx hb hts (by decide +kernel) hown hK hP 15 rfl rfl 3 (by decide) (va_Nw.use rfl hE.2.2.2.2.2.2.2.2.2.2.2.2.1) (fun _ h9 => h9) rfl dX7_person_154 ?_
                      refine vp_callSi (va_Run.run (va_runV (As := [.int pe, .int dy.2.2.2]) (rest := []) ⟨hx, hb, hml, hown, hts⟩ (c_X1_fine l D cI cL cZ ad A tx td dr dy lb pn ps ks si kb pe dy.2.2.2 (by first | assumption | omega)) (cwV 2 hts gX7_person_X1_fine rfl rfl rfl (by decide +kernel) ⟨Nat.le_of_ble_eq_true rfl, Nat.le_of_ble_eq_true rfl⟩) ⟨sR_fb, va_recv hK hP (ci := 1) (q0 := 18) rfl rfl, sR_at hP hK hD hE⟩ rfl rfl hl.1 rfl (lv_room (Nat.le_of_ble_eq_true rfl)) dX7_person_157 ⟨Nat.zero_le _, Nat.zero_le _⟩)) (fun r hr => ?_)
                      subst hr
                      have hf : (f_X7_person td dy pe wh) = (f_X1_fine td dy pe dy.2.2.2) := by rw [f_X7_person, if_neg c_1, if_neg c_2, if_neg c_3, if_neg c_4, if_neg c_5, if_neg c_6, if_neg c_7, if_neg c_10, if_neg c_11, if_pos c_12]
                      exact W.iret (v := (f_X1_fine td dy pe dy.2.2.2)) hx hb hr (fun t ht hW => ⟨(f_X1_fine td dy pe dy.2.2.2), rfl, hf.symm, ht⟩) (fun _ h => by cases h) dX7_person_160
                    · by_cases c_13 : wh = nI 9
                      · refine lv_tableIn (off := 146) (tgt := 161) hx hb dX7_person_15 (by rw [c_13]; decide) (by rw [c_13]; decide) (by rw [c_13]; decide) (by decide) ?_
                        refine lv_aload_n hx hb dX7_person_161 rfl (lv_at hl 0 rfl) ?_
                        refine va_get (D := D) (ci := 7) (v := .ref (ad 15)) (C := RX7) (T := TX7) (N := 9) hx hb hts (by decide +kernel) hown hK hP 0 rfl rfl 3 (by decide) (hts (.fieldLink RX7 29 "SummitTime" "day" "LSummitTime$Day;") (by decide +kernel)) (fun _ h9 => h9) rfl dX7_person_162 ?_
                        refine lv_iload_n hx hb dX7_person_165 rfl (lv_at hl 1 rfl) ?_
                        refine vp_callSl (va_Run.run (va_runV (As := [.int pe]) (rest := []) ⟨hx, hb, hml, hown, hts⟩ (c_X0_landOf l D cI cL cZ ad A tx td dr dy lb pn ps ks si kb pe ) (cwV 1 hts gX7_person_X0_landOf rfl rfl rfl (by decide +kernel) ⟨Nat.le_of_ble_eq_true rfl, Nat.le_of_ble_eq_true rfl⟩) ⟨sR_fb, va_recv hK hP (ci := 0) (q0 := 15) rfl rfl, sR_at hP hK hD hE⟩ rfl rfl hl.1 rfl (lv_room (Nat.le_of_ble_eq_true rfl)) dX7_person_166 ⟨Nat.zero_le _, Nat.zero_le _⟩)) (fun r hr => ?_)
                        subst hr
                        refine vp_callSi (va_Run.run (va_runS (As := [.long (f_X0_landOf dy pe)]) (rest := []) ⟨hx, hb, hml, hown, hts⟩ (c_J13_bitCount_95d88 l (f_X0_landOf dy pe) ) (va_cwS 1 hts gX7_person_J13_bitCount_95d88 rfl rfl rfl (by decide +kernel) ⟨Nat.le_of_ble_eq_true rfl, Nat.le_of_ble_eq_true rfl⟩) ⟨pR_fb, pR_at⟩ rfl rfl hl.1 rfl (lv_room (Nat.le_of_ble_eq_true rfl)) dX7_person_169 ⟨Nat.zero_le _, Nat.zero_le _⟩)) (fun r hr => ?_)
                        subst hr
                        have hf : (f_X7_person td dy pe wh) = (f_J13_bitCount_95d88 (f_X0_landOf dy pe)) := by rw [f_X7_person, if_neg c_1, if_neg c_2, if_neg c_3, if_neg c_4, if_neg c_5, if_neg c_6, if_neg c_7, if_neg c_10, if_neg c_11, if_neg c_12, if_pos c_13]
                        exact W.iret (v := (f_J13_bitCount_95d88 (f_X0_landOf dy pe))) hx hb hr (fun t ht hW => ⟨(f_J13_bitCount_95d88 (f_X0_landOf dy pe)), rfl, hf.symm, ht⟩) (fun _ h => by cases h) dX7_person_172
                      · have w_14 : wh.toInt < 0 ∨ 9 < wh.toInt := by
                          have := lv_neT c_2 (show (nI 0 : Int32).toInt = 0 by decide)
                          have := lv_neT c_3 (show (nI 1 : Int32).toInt = 1 by decide)
                          have := lv_neT c_4 (show (nI 2 : Int32).toInt = 2 by decide)
                          have := lv_neT c_5 (show (nI 3 : Int32).toInt = 3 by decide)
                          have := lv_neT c_6 (show (nI 4 : Int32).toInt = 4 by decide)
                          have := lv_neT c_7 (show (nI 5 : Int32).toInt = 5 by decide)
                          have := lv_neT c_10 (show (nI 6 : Int32).toInt = 6 by decide)
                          have := lv_neT c_11 (show (nI 7 : Int32).toInt = 7 by decide)
                          have := lv_neT c_12 (show (nI 8 : Int32).toInt = 8 by decide)
                          have := lv_neT c_13 (show (nI 9 : Int32).toInt = 9 by decide)
                          omega
                        refine lv_tableOut (tgt := 173) hx hb dX7_person_15 w_14 (by decide) ?_
                        refine lv_bipush (v := (-3)) hx hb dX7_person_173 rfl ?_
                        have hf : (f_X7_person td dy pe wh) = (-3 : Int32) := by rw [f_X7_person, if_neg c_1, if_neg c_2, if_neg c_3, if_neg c_4, if_neg c_5, if_neg c_6, if_neg c_7, if_neg c_10, if_neg c_11, if_neg c_12, if_neg c_13]
                        exact W.iret (v := (-3 : Int32)) hx hb hr (fun t ht hW => ⟨(-3 : Int32), rfl, hf.symm, ht⟩) (fun _ h => by cases h) dX7_person_175
  · refine lv_bipush (v := (-2)) hx hb dX7_person_11 rfl ?_
    have hf : (f_X7_person td dy pe wh) = (-2 : Int32) := by rw [f_X7_person, if_pos c_1]
    exact W.iret (v := (-2 : Int32)) hx hb hr (fun t ht hW => ⟨(-2 : Int32), rfl, hf.symm, ht⟩) (fun _ h => by cases h) dX7_person_13
