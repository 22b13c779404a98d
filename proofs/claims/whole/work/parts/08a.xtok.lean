/-- a world of the class stands, and the String constants -/
def sL (adK : Nat → Nat) (U : State) : Prop := vk_R RX5 92 "climber" (adK 0) U ∧ vk_R RX5 98 "guide" (adK 1) U ∧ vk_R RX5 100 "mourner" (adK 2) U ∧ vk_R RX5 102 "bank" (adK 3) U ∧ vk_R RX5 104 "deed" (adK 4) U ∧ vk_R RX5 105 "fog" (adK 5) U ∧ vk_R RX5 107 "clear" (adK 6) U ∧ vk_R RX5 109 "top" (adK 7) U
theorem sL.calling {adK : Nat → Nat} {U : State} {g : JFrame} {mk : MethodId} {a : Array Value} (h : sL adK U) : sL adK (U.calling g mk a) := by
  obtain ⟨h0, h1, h2, h3, h4, h5, h6, h7⟩ := h
  exact ⟨vk_R.same rfl h0, vk_R.same rfl h1, vk_R.same rfl h2, vk_R.same rfl h3, vk_R.same rfl h4, vk_R.same rfl h5, vk_R.same rfl h6, vk_R.same rfl h7⟩
theorem sL.warm {adK : Nat → Nat} {s U : State} (hW : s.WarmedH U.vm) (h : sL adK s) : sL adK U := by
  obtain ⟨h0, h1, h2, h3, h4, h5, h6, h7⟩ := h
  exact ⟨h0.warm hW, h1.warm hW, h2.warm hW, h3.warm hW, h4.warm hW, h5.warm hW, h6.warm hW, h7.warm hW⟩
def xS (D : va_G) (cI cL cZ : ClassId) (A : Nat → Prop) (adK adV : Nat → Nat) (ws : va_W) (U : State) : Prop := sR D cI cL cZ A ws U ∧ sE adK adV A U ∧ sL adK U
theorem xS_fb {D : va_G} {cI cL cZ : ClassId} {A : Nat → Prop} {adK adV : Nat → Nat} {ws : va_W} {av : List Value} : FrameBlind (va_Pc av (xS D cI cL cZ A adK adV ws)) := fun a U g mk q => by
  obtain ⟨q0, q1, q2, q3⟩ := q
  exact ⟨q0, (sR_fb (av := av) a U g mk ⟨q0, q1⟩).2, q2.calling, q3.calling⟩
theorem xS_at {D : va_G} {cI cL cZ : ClassId} {A : Nat → Prop} {adK adV : Nat → Nat} {ws : va_W} {av : List Value} {s : State} {H : Heap} {locs : List Loc} (hP : va_P D vwCl ws H) (hK : va_K D vwCl (tyS cI cL cZ) s) (hD : va_D A ws) (hE : nE s) (hSE : sE adK adV A s) (hSL : sL adK s) (hS : va_S A s.heap H locs) : ∀ U : State, U.heap = H → s.WarmedH U.vm → va_Pc av (xS D cI cL cZ A adK adV ws) av.toArray U := fun U hU hW => ⟨rfl, (sR_at (av := av) hP hK hD hE U hU hW).2, hSE.at hS hU hW, hSL.warm hW⟩
def f_X5_add (tx : XTx) (le : Int32) : Int32 × XTx := (if tx.2.1 < 160 then (nI 1, ((upd tx.1 tx.2.1 le), (tx.2.1 + 1), tx.2.2.1, tx.2.2.2.1, tx.2.2.2.2.1, tx.2.2.2.2.2)) else (nI 0, tx))
theorem f_X5_add_b (tx : XTx) (le : Int32) : (f_X5_add tx le).1 = nI 0 ∨ (f_X5_add tx le).1 = nI 1 := by
  unfold f_X5_add
  (repeat' split) <;> first | exact Or.inl rfl | exact Or.inr rfl | exact f_X8_in_b _ _ _
abbrev rm_X5_add : Room := { frames := 0, cells := 0, slots := 0, locals := 0 }
set_option maxHeartbeats 4000000 in
set_option maxRecDepth 100000 in
theorem c_X5_add (l : Launch) (D : va_G) (cI cL cZ : ClassId) (ad : Nat → Nat) (A : Nat → Prop) (tx : XTx) (td : XTd) (dr : XTd) (dy : XDy) (lb : (Nat → Int32)) (pn : (Nat × Nat)) (ps : XSh) (ks : XSh) (si : XSi) (kb : Int32) (le : Int32) (hl0 : tx.2.1 ≤ 160) : Met l yX5_add wsX5_add rm_X5_add (va_Pc [.ref (ad 1), .int le] (sR D cI cL cZ A (xW cI cL cZ ad tx td dr dy lb pn ps ks si kb))) (va_Qi (fun (r : Int32) (u : XTx) => r = (f_X5_add tx le).1 ∧ u = (f_X5_add tx le).2) (fun (u : XTx) t => va_P D vwCl (xW cI cL cZ ad u td dr dy lb pn ps ks si kb) t.heap) A) 0 0 A := by
  refine Met.ofW (cc := cX5_add) (maxL := 2) (ret := (some .boolean)) (by decide) rfl ?_
  intro p e s m args below meth c s₁ B hml hv
  obtain ⟨rfl, hP, hK, hD, hE⟩ := hv
  have hx := B.exec
  have hb := B.bytes
  have hr := B.returns
  have hts := atoms_spec (ws := wsX5_add) B.pre
  have hown : s.vm.findClass RX5 = some m.cls := findClass_of_methodNamed B.named
  have hlocks := B.notSynchronized
  have hS : va_S A s.heap s.heap [] := va_S.rf
  have hl := lv_entry ([.ref (ad 1), .int le]) (n := 2) (Nat.le_of_ble_eq_true rfl)
  rw [lg_entry_eq]
  generalize (lg_sl ([.ref (ad 1), .int le]) ++ List.replicate (2 - (lg_sl ([.ref (ad 1), .int le])).length) Slot.unset).toArray = ls at hl ⊢
  have hl : lv_has ls 2 [(0, .ref (ad 1)), (1, .int le)] := hl
  refine lv_aload_n hx hb dX5_add_0 rfl (lv_at hl 0 rfl) ?_
  refine va_get (D := D) (ci := 5) (v := .int (nI tx.2.1)) (C := RX5) (T := TX5) (N := 6) hx hb hts (by decide +kernel) hown hK hP 1 rfl rfl 1 (by decide) (hts (.fieldLink RX5 15 "SummitTime$Text" "length" "I") (by decide +kernel)) (fun _ h9 => h9) rfl dX5_add_1 ?_
  refine mv_if_lt (tgt := 17) hx hb dX5_add_4 (by decide) (by omega) ?_
  refine lv_aload_n hx hb dX5_add_7 rfl (lv_at hl 0 rfl) ?_
  refine va_get (D := D) (ci := 5) (v := .int (nI tx.2.1)) (C := RX5) (T := TX5) (N := 6) hx hb hts (by decide +kernel) hown hK hP 1 rfl rfl 1 (by decide) (hts (.fieldLink RX5 15 "SummitTime$Text" "length" "I") (by decide +kernel)) (fun _ h9 => h9) rfl dX5_add_8 ?_
  refine lv_sipush (v := nI 160) hx hb dX5_add_11 rfl ?_
  refine mv_icmp_lt (tgt := 19) hx hb dX5_add_14 (by decide) (by omega) (by decide) (fun c_1 => ?_) (fun c_1 => ?_)
  · refine lv_aload_n hx hb dX5_add_19 rfl (lv_at hl 0 rfl) ?_
    refine va_get (D := D) (ci := 5) (v := .ref (ad 2)) (C := RX5) (T := TX5) (N := 6) hx hb hts (by decide +kernel) hown hK hP 1 rfl rfl 0 (by decide) (hts (.fieldLink RX5 9 "SummitTime$Text" "letters" "[I") (by decide +kernel)) (fun _ h9 => h9) rfl dX5_add_20 ?_
    refine lv_aload_n hx hb dX5_add_23 rfl (lv_at hl 0 rfl) ?_
    refine va_get (D := D) (ci := 5) (v := .int (nI tx.2.1)) (C := RX5) (T := TX5) (N := 6) hx hb hts (by decide +kernel) hown hK hP 1 rfl rfl 1 (by decide) (hts (.fieldLink RX5 15 "SummitTime$Text" "length" "I") (by decide +kernel)) (fun _ h9 => h9) rfl dX5_add_24 ?_
    refine lv_iload_n hx hb dX5_add_27 rfl (lv_at hl 1 rfl) ?_
    refine mv_iast (f := tx.1) hx hb hK hP hD hS 2 0 rfl rfl (by omega) (by decide) dX5_add_28 (fun H locs hP hD hS => ?_)
    have hP : va_P D vwCl (xW cI cL cZ ad ((upd tx.1 tx.2.1 le), tx.2.1, tx.2.2.1, tx.2.2.2.1, tx.2.2.2.2.1, tx.2.2.2.2.2) td dr dy lb pn ps ks si kb) H := hP
    have hD : va_D A (xW cI cL cZ ad ((upd tx.1 tx.2.1 le), tx.2.1, tx.2.2.1, tx.2.2.2.1, tx.2.2.2.2.1, tx.2.2.2.2.2) td dr dy lb pn ps ks si kb) := hD
    refine lv_aload_n hx hb dX5_add_29 rfl (lv_at hl 0 rfl) ?_
    refine lv_dup hx hb dX5_add_30 rfl ?_
    refine va_get (D := D) (ci := 5) (v := .int (nI tx.2.1)) (C := RX5) (T := TX5) (N := 6) hx hb hts (by decide +kernel) hown hK hP 1 rfl rfl 1 (by decide) (hts (.fieldLink RX5 15 "SummitTime$Text" "length" "I") (by decide +kernel)) (fun _ h9 => h9) rfl dX5_add_31 ?_
    refine lv_iconst (v := nI 1) hx hb dX5_add_34 rfl ?_
    refine mv_iadd hx hb dX5_add_35 ?_
    refine va_put (D := D) (ci := 5) (v := .int (nI (tx.2.1 + 1))) (ty := .int) (C := RX5) (T := TX5) (N := 6) hx hb hts (by decide +kernel) tyX5 tyX5_ok nmX5 hown hK hP hD hS 1 rfl rfl 1 (by decide) (hts (.fieldLink RX5 15 "SummitTime$Text" "length" "I") (by decide +kernel)) (fun _ h9 => h9) rfl (by decide +kernel) rfl rfl (Nat.le_of_ble_eq_true rfl) dX5_add_36 (fun H locs hP hD hS => ?_)
    have hP : va_P D vwCl (xW cI cL cZ ad ((upd tx.1 tx.2.1 le), (tx.2.1 + 1), tx.2.2.1, tx.2.2.2.1, tx.2.2.2.2.1, tx.2.2.2.2.2) td dr dy lb pn ps ks si kb) H := hP
    have hD : va_D A (xW cI cL cZ ad ((upd tx.1 tx.2.1 le), (tx.2.1 + 1), tx.2.2.1, tx.2.2.2.1, tx.2.2.2.2.1, tx.2.2.2.2.2) td dr dy lb pn ps ks si kb) := hD
    refine lv_iconst (v := nI 1) hx hb dX5_add_39 rfl ?_
    have hf : (f_X5_add tx le) = (nI 1, ((upd tx.1 tx.2.1 le), (tx.2.1 + 1), tx.2.2.1, tx.2.2.2.1, tx.2.2.2.2.1, tx.2.2.2.2.2)) := by rw [f_X5_add, if_pos c_1]
    have hf1 : nI 1 = (f_X5_add tx le).1 := by rw [hf]
    have hf2 : ((upd tx.1 tx.2.1 le), (tx.2.1 + 1), tx.2.2.1, tx.2.2.2.1, tx.2.2.2.2.1, tx.2.2.2.2.2) = (f_X5_add tx le).2 := by rw [hf]
    exact W.zret (v := nI 1) (ty := .boolean) hx hb hr rfl (fun t ht hW => ⟨⟨nI 1, ((upd tx.1 tx.2.1 le), (tx.2.1 + 1), tx.2.2.1, tx.2.2.2.1, tx.2.2.2.2.1, tx.2.2.2.2.2), rfl, ⟨hf1, hf2⟩, va_Pt ht hP⟩, hS.F ht⟩) hS.2.2 dX5_add_40
  · refine lv_iconst (v := nI 0) hx hb dX5_add_17 rfl ?_
    have hf : (f_X5_add tx le) = (nI 0, tx) := by rw [f_X5_add, if_neg c_1]
    have hf1 : nI 0 = (f_X5_add tx le).1 := by rw [hf]
    have hf2 : tx = (f_X5_add tx le).2 := by rw [hf]
    exact W.zret (v := nI 0) (ty := .boolean) hx hb hr rfl (fun t ht hW => ⟨⟨nI 0, tx, rfl, ⟨hf1, hf2⟩, va_Pt ht hP⟩, hS.F ht⟩) hS.2.2 dX5_add_18
def f_X5_empty (tx : XTx) : XTx := (tx.1, 0, tx.2.2.1, tx.2.2.2.1, tx.2.2.2.2.1, tx.2.2.2.2.2)
abbrev rm_X5_empty : Room := { frames := 0, cells := 0, slots := 0, locals := 0 }
set_option maxHeartbeats 4000000 in
set_option maxRecDepth 100000 in
theorem c_X5_empty (l : Launch) (D : va_G) (cI cL cZ : ClassId) (ad : Nat → Nat) (A : Nat → Prop) (tx : XTx) (td : XTd) (dr : XTd) (dy : XDy) (lb : (Nat → Int32)) (pn : (Nat × Nat)) (ps : XSh) (ks : XSh) (si : XSi) (kb : Int32)   : Met l yX5_empty wsX5_empty rm_X5_empty (va_Pc [.ref (ad 1)] (sR D cI cL cZ A (xW cI cL cZ ad tx td dr dy lb pn ps ks si kb))) (va_Qv (fun (u : XTx) => u = (f_X5_empty tx)) (fun (u : XTx) t => va_P D vwCl (xW cI cL cZ ad u td dr dy lb pn ps ks si kb) t.heap) A) 0 0 A := by
  refine Met.ofW (cc := cX5_empty) (maxL := 1) (ret := none) (by decide) rfl ?_
  intro p e s m args below meth c s₁ B hml hv
  obtain ⟨rfl, hP, hK, hD, hE⟩ := hv
  have hx := B.exec
  have hb := B.bytes
  have hr := B.returns
  have hts := atoms_spec (ws := wsX5_empty) B.pre
  have hown : s.vm.findClass RX5 = some m.cls := findClass_of_methodNamed B.named
  have hlocks := B.notSynchronized
  have hS : va_S A s.heap s.heap [] := va_S.rf
  have hl := lv_entry ([.ref (ad 1)]) (n := 1) (Nat.le_of_ble_eq_true rfl)
  rw [lg_entry_eq]
  generalize (lg_sl ([.ref (ad 1)]) ++ List.replicate (1 - (lg_sl ([.ref (ad 1)])).length) Slot.unset).toArray = ls at hl ⊢
  have hl : lv_has ls 1 [(0, .ref (ad 1))] := hl
  refine lv_aload_n hx hb dX5_empty_0 rfl (lv_at hl 0 rfl) ?_
  refine lv_iconst (v := nI 0) hx hb dX5_empty_1 rfl ?_
  refine va_put (D := D) (ci := 5) (v := .int (nI 0)) (ty := .int) (C := RX5) (T := TX5) (N := 6) hx hb hts (by decide +kernel) tyX5 tyX5_ok nmX5 hown hK hP hD hS 1 rfl rfl 1 (by decide) (hts (.fieldLink RX5 15 "SummitTime$Text" "length" "I") (by decide +kernel)) (fun _ h9 => h9) rfl (by decide +kernel) rfl rfl (Nat.le_of_ble_eq_true rfl) dX5_empty_2 (fun H locs hP hD hS => ?_)
  have hP : va_P D vwCl (xW cI cL cZ ad (tx.1, 0, tx.2.2.1, tx.2.2.2.1, tx.2.2.2.2.1, tx.2.2.2.2.2) td dr dy lb pn ps ks si kb) H := hP
  have hD : va_D A (xW cI cL cZ ad (tx.1, 0, tx.2.2.1, tx.2.2.2.1, tx.2.2.2.2.1, tx.2.2.2.2.2) td dr dy lb pn ps ks si kb) := hD
  have hf : (f_X5_empty tx) = (tx.1, 0, tx.2.2.1, tx.2.2.2.1, tx.2.2.2.2.1, tx.2.2.2.2.2) := by rw [f_X5_empty]
  exact W.vret hx hb hr (fun t ht hW => ⟨⟨(tx.1, 0, tx.2.2.1, tx.2.2.2.1, tx.2.2.2.2.1, tx.2.2.2.2.2), rfl, hf.symm, va_Pt ht hP⟩, hS.F ht⟩) hS.2.2 dX5_empty_5
def f_X5_size (tx : XTx) : Int32 := nI tx.2.1
abbrev rm_X5_size : Room := { frames := 0, cells := 0, slots := 0, locals := 0 }
set_option maxHeartbeats 4000000 in
set_option maxRecDepth 100000 in
theorem c_X5_size (l : Launch) (D : va_G) (cI cL cZ : ClassId) (ad : Nat → Nat) (A : Nat → Prop) (tx : XTx) (td : XTd) (dr : XTd) (dy : XDy) (lb : (Nat → Int32)) (pn : (Nat × Nat)) (ps : XSh) (ks : XSh) (si : XSi) (kb : Int32)   : Met l yX5_size wsX5_size rm_X5_size (va_Pc [.ref (ad 1)] (sR D cI cL cZ A (xW cI cL cZ ad tx td dr dy lb pn ps ks si kb))) (vp_Si (fun r => r = (f_X5_size tx))) 0 0 (fun _ => False) := by
  refine Met.ofW (cc := cX5_size) (maxL := 1) (ret := (some .int)) (by decide) rfl ?_
  intro p e s m args below meth c s₁ B hml hv
  obtain ⟨rfl, hP, hK, hD, hE⟩ := hv
  have hx := B.exec
  have hb := B.bytes
  have hr := B.returns
  have hts := atoms_spec (ws := wsX5_size) B.pre
  have hown : s.vm.findClass RX5 = some m.cls := findClass_of_methodNamed B.named
  have hlocks := B.notSynchronized
  have hl := lv_entry ([.ref (ad 1)]) (n := 1) (Nat.le_of_ble_eq_true rfl)
  rw [lg_entry_eq]
  generalize (lg_sl ([.ref (ad 1)]) ++ List.replicate (1 - (lg_sl ([.ref (ad 1)])).length) Slot.unset).toArray = ls at hl ⊢
  have hl : lv_has ls 1 [(0, .ref (ad 1))] := hl
  refine lv_aload_n hx hb dX5_size_0 rfl (lv_at hl 0 rfl) ?_
  refine va_get (D := D) (ci := 5) (v := .int (nI tx.2.1)) (C := RX5) (T := TX5) (N := 6) hx hb hts (by decide +kernel) hown hK hP 1 rfl rfl 1 (by decide) (hts (.fieldLink RX5 15 "SummitTime$Text" "length" "I") (by decide +kernel)) (fun _ h9 => h9) rfl dX5_size_1 ?_
  have hf : (f_X5_size tx) = nI tx.2.1 := by rw [f_X5_size]
  exact W.iret (v := nI tx.2.1) hx hb hr (fun t ht hW => ⟨nI tx.2.1, rfl, hf.symm, ht⟩) (fun _ h => by cases h) dX5_size_4
def f_X5_clausesRead (tx : XTx) : Int32 := nI tx.2.2.2.2.2
abbrev rm_X5_clausesRead : Room := { frames := 0, cells := 0, slots := 0, locals := 0 }
set_option maxHeartbeats 4000000 in
set_option maxRecDepth 100000 in
theorem c_X5_clausesRead (l : Launch) (D : va_G) (cI cL cZ : ClassId) (ad : Nat → Nat) (A : Nat → Prop) (tx : XTx) (td : XTd) (dr : XTd) (dy : XDy) (lb : (Nat → Int32)) (pn : (Nat × Nat)) (ps : XSh) (ks : XSh) (si : XSi) (kb : Int32)   : Met l yX5_clausesRead wsX5_clausesRead rm_X5_clausesRead (va_Pc [.ref (ad 1)] (sR D cI cL cZ A (xW cI cL cZ ad tx td dr dy lb pn ps ks si kb))) (vp_Si (fun r => r = (f_X5_clausesRead tx))) 0 0 (fun _ => False) := by
  refine Met.ofW (cc := cX5_clausesRead) (maxL := 1) (ret := (some .int)) (by decide) rfl ?_
  intro p e s m args below meth c s₁ B hml hv
  obtain ⟨rfl, hP, hK, hD, hE⟩ := hv
  have hx := B.exec
  have hb := B.bytes
  have hr := B.returns
  have hts := atoms_spec (ws := wsX5_clausesRead) B.pre
  have hown : s.vm.findClass RX5 = some m.cls := findClass_of_methodNamed B.named
  have hlocks := B.notSynchronized
  have hl := lv_entry ([.ref (ad 1)]) (n := 1) (Nat.le_of_ble_eq_true rfl)
  rw [lg_entry_eq]
  generalize (lg_sl ([.ref (ad 1)]) ++ List.replicate (1 - (lg_sl ([.ref (ad 1)])).length) Slot.unset).toArray = ls at hl ⊢
  have hl : lv_has ls 1 [(0, .ref (ad 1))] := hl
  refine lv_aload_n hx hb dX5_clausesRead_0 rfl (lv_at hl 0 rfl) ?_
  refine va_get (D := D) (ci := 5) (v := .int (nI tx.2.2.2.2.2)) (C := RX5) (T := TX5) (N := 6) hx hb hts (by decide +kernel) hown hK hP 1 rfl rfl 5 (by decide) (hts (.fieldLink RX5 19 "SummitTime$Text" "clauses" "I") (by decide +kernel)) (fun _ h9 => h9) rfl dX5_clausesRead_1 ?_
  have hf : (f_X5_clausesRead tx) = nI tx.2.2.2.2.2 := by rw [f_X5_clausesRead]
  exact W.iret (v := nI tx.2.2.2.2.2) hx hb hr (fun t ht hW => ⟨nI tx.2.2.2.2.2, rfl, hf.symm, ht⟩) (fun _ h => by cases h) dX5_clausesRead_4
def f_X5_letterAt (tx : XTx) (plc : Nat) : Int32 := (if tx.2.1 ≤ plc then (-1 : Int32) else (if 160 ≤ plc then (-1 : Int32) else (tx.1 plc)))
abbrev rm_X5_letterAt : Room := { frames := 0, cells := 0, slots := 0, locals := 0 }
set_option maxHeartbeats 4000000 in
set_option maxRecDepth 100000 in
theorem c_X5_letterAt (l : Launch) (D : va_G) (cI cL cZ : ClassId) (ad : Nat → Nat) (A : Nat → Prop) (tx : XTx) (td : XTd) (dr : XTd) (dy : XDy) (lb : (Nat → Int32)) (pn : (Nat × Nat)) (ps : XSh) (ks : XSh) (si : XSi) (kb : Int32) (plc : Nat) (hl0 : tx.2.1 ≤ 160) (hplc : plc ≤ 1000) : Met l yX5_letterAt wsX5_letterAt rm_X5_letterAt (va_Pc [.ref (ad 1), .int (nI plc)] (sR D cI cL cZ A (xW cI cL cZ ad tx td dr dy lb pn ps ks si kb))) (vp_Si (fun r => r = (f_X5_letterAt tx plc))) 0 0 (fun _ => False) := by
  refine Met.ofW (cc := cX5_letterAt) (maxL := 2) (ret := (some .int)) (by decide) rfl ?_
  intro p e s m args below meth c s₁ B hml hv
  obtain ⟨rfl, hP, hK, hD, hE⟩ := hv
  have hx := B.exec
  have hb := B.bytes
  have hr := B.returns
  have hts := atoms_spec (ws := wsX5_letterAt) B.pre
  have hown : s.vm.findClass RX5 = some m.cls := findClass_of_methodNamed B.named
  have hlocks := B.notSynchronized
  have hl := lv_entry ([.ref (ad 1), .int (nI plc)]) (n := 2) (Nat.le_of_ble_eq_true rfl)
  rw [lg_entry_eq]
  generalize (lg_sl ([.ref (ad 1), .int (nI plc)]) ++ List.replicate (2 - (lg_sl ([.ref (ad 1), .int (nI plc)])).length) Slot.unset).toArray = ls at hl ⊢
  have hl : lv_has ls 2 [(0, .ref (ad 1)), (1, .int (nI plc))] := hl
  refine lv_iload_n hx hb dX5_letterAt_0 rfl (lv_at hl 1 rfl) ?_
  refine mv_phi (v := (if tx.2.1 ≤ plc then (-1 : Int32) else (if 160 ≤ plc then (-1 : Int32) else (tx.1 plc)))) (pcj := 29) (ls := ls) (rest' := []) ?_ (fun J_1 => ?_)
  · have hf : (f_X5_letterAt tx plc) = (if tx.2.1 ≤ plc then (-1 : Int32) else (if 160 ≤ plc then (-1 : Int32) else (tx.1 plc))) := by rw [f_X5_letterAt]
    exact W.iret (v := (if tx.2.1 ≤ plc then (-1 : Int32) else (if 160 ≤ plc then (-1 : Int32) else (tx.1 plc)))) hx hb hr (fun t ht hW => ⟨(if tx.2.1 ≤ plc then (-1 : Int32) else (if 160 ≤ plc then (-1 : Int32) else (tx.1 plc))), rfl, hf.symm, ht⟩) (fun _ h => by cases h) dX5_letterAt_29
  · refine mv_if_lt (tgt := 28) hx hb dX5_letterAt_1 (by decide) (by omega) ?_
    refine lv_iload_n hx hb dX5_letterAt_4 rfl (lv_at hl 1 rfl) ?_
    refine lv_aload_n hx hb dX5_letterAt_5 rfl (lv_at hl 0 rfl) ?_
    refine va_get (D := D) (ci := 5) (v := .int (nI tx.2.1)) (C := RX5) (T := TX5) (N := 6) hx hb hts (by decide +kernel) hown hK hP 1 rfl rfl 1 (by decide) (hts (.fieldLink RX5 15 "SummitTime$Text" "length" "I") (by decide +kernel)) (fun _ h9 => h9) rfl dX5_letterAt_6 ?_
    refine mv_icmp_ge (tgt := 28) hx hb dX5_letterAt_9 (by decide) (by omega) (by omega) (fun c_2 => ?_) (fun c_2 => ?_)
    · refine lv_iconst (v := (-1)) hx hb dX5_letterAt_28 rfl ?_
      exact J_1 _ (by rw [if_pos c_2])
    · refine lv_iload_n hx hb dX5_letterAt_12 rfl (lv_at hl 1 rfl) ?_
      refine lv_sipush (v := nI 160) hx hb dX5_letterAt_13 rfl ?_
      refine mv_icmp_ge (tgt := 28) hx hb dX5_letterAt_16 (by decide) (by omega) (by decide) (fun c_3 => ?_) (fun c_3 => ?_)
      · refine lv_iconst (v := (-1)) hx hb dX5_letterAt_28 rfl ?_
        exact J_1 _ (by rw [if_neg c_2, if_pos c_3])
      · refine lv_aload_n hx hb dX5_letterAt_19 rfl (lv_at hl 0 rfl) ?_
        refine va_get (D := D) (ci := 5) (v := .ref (ad 2)) (C := RX5) (T := TX5) (N := 6) hx hb hts (by decide +kernel) hown hK hP 1 rfl rfl 0 (by decide) (hts (.fieldLink RX5 9 "SummitTime$Text" "letters" "[I") (by decide +kernel)) (fun _ h9 => h9) rfl dX5_letterAt_20 ?_
        refine lv_iload_n hx hb dX5_letterAt_23 rfl (lv_at hl 1 rfl) ?_
        refine mv_iald (f := tx.1) hx hb hK hP 2 0 rfl rfl (by omega) (by decide) dX5_letterAt_24 ?_
        refine lv_goto (tgt := 29) hx hb dX5_letterAt_25 (by decide) ?_
        exact J_1 _ (by rw [if_neg c_2, if_neg c_3])
def f_X5_sortOf (le : Int32) : Int32 := (if le = (-1 : Int32) then nI 0 else (if le < nI 97 then (if le < nI 48 then nI 3 else (if nI 57 < le then nI 3 else nI 2)) else (if nI 122 < le then (if le < nI 48 then nI 3 else (if nI 57 < le then nI 3 else nI 2)) else nI 1)))
abbrev rm_X5_sortOf : Room := { frames := 0, cells := 0, slots := 0, locals := 0 }
set_option maxHeartbeats 4000000 in
set_option maxRecDepth 100000 in
theorem c_X5_sortOf (l : Launch) (le : Int32)  : Met l yX5_sortOf wsX5_sortOf rm_X5_sortOf (va_Pc [.int le] (fun _ => True)) (vp_Si (fun r => r = (f_X5_sortOf le))) 0 0 (fun _ => False) := by
  refine Met.ofW (cc := cX5_sortOf) (maxL := 1) (ret := (some .int)) (by decide) rfl ?_
  intro p e s m args below meth c s₁ B hml hv
  obtain ⟨rfl, -⟩ := hv
  have hx := B.exec
  have hb := B.bytes
  have hr := B.returns
  have hts := atoms_spec (ws := wsX5_sortOf) B.pre
  have hown : s.vm.findClass RX5 = some m.cls := findClass_of_methodNamed B.named
  have hlocks := B.notSynchronized
  have hl := lv_entry ([.int le]) (n := 1) (Nat.le_of_ble_eq_true rfl)
  rw [lg_entry_eq]
  generalize (lg_sl ([.int le]) ++ List.replicate (1 - (lg_sl ([.int le])).length) Slot.unset).toArray = ls at hl ⊢
  have hl : lv_has ls 1 [(0, .int le)] := hl
  refine lv_iload_n hx hb dX5_sortOf_0 rfl (lv_at hl 0 rfl) ?_
  refine lv_iconst (v := (-1)) hx hb dX5_sortOf_1 rfl ?_
  refine lv_icmp_ne (tgt := 7) hx hb dX5_sortOf_2 (by decide) (fun c_1 => ?_) (fun c_1 => ?_)
  · refine lv_iload_n hx hb dX5_sortOf_7 rfl (lv_at hl 0 rfl) ?_
    refine lv_bipush (v := nI 97) hx hb dX5_sortOf_8 rfl ?_
    refine lv_icmp_lt (tgt := 21) hx hb dX5_sortOf_10 (by decide) (fun c_2 => ?_) (fun c_2 => ?_)
    · refine lv_iload_n hx hb dX5_sortOf_21 rfl (lv_at hl 0 rfl) ?_
      refine lv_bipush (v := nI 48) hx hb dX5_sortOf_22 rfl ?_
      refine mv_phi (v := (if le < nI 48 then nI 3 else (if nI 57 < le then nI 3 else nI 2))) (pcj := 38) (ls := ls) (rest' := []) ?_ (fun J_3 => ?_)
      · have hf : (f_X5_sortOf le) = (if le < nI 48 then nI 3 else (if nI 57 < le then nI 3 else nI 2)) := by rw [f_X5_sortOf, if_neg c_1, if_pos c_2]
        exact W.iret (v := (if le < nI 48 then nI 3 else (if nI 57 < le then nI 3 else nI 2))) hx hb hr (fun t ht hW => ⟨(if le < nI 48 then nI 3 else (if nI 57 < le then nI 3 else nI 2)), rfl, hf.symm, ht⟩) (fun _ h => by cases h) dX5_sortOf_38
      · refine lv_icmp_lt (tgt := 37) hx hb dX5_sortOf_24 (by decide) (fun c_4 => ?_) (fun c_4 => ?_)
        · refine lv_iconst (v := nI 3) hx hb dX5_sortOf_37 rfl ?_
          exact J_3 _ (by rw [if_pos c_4])
        · refine lv_iload_n hx hb dX5_sortOf_27 rfl (lv_at hl 0 rfl) ?_
          refine lv_bipush (v := nI 57) hx hb dX5_sortOf_28 rfl ?_
          refine lv_icmp_gt (tgt := 37) hx hb dX5_sortOf_30 (by decide) (fun c_5 => ?_) (fun c_5 => ?_)
          · refine lv_iconst (v := nI 3) hx hb dX5_sortOf_37 rfl ?_
            exact J_3 _ (by rw [if_neg c_4, if_pos c_5])
          · refine lv_iconst (v := nI 2) hx hb dX5_sortOf_33 rfl ?_
            refine lv_goto (tgt := 38) hx hb dX5_sortOf_34 (by decide) ?_
            exact J_3 _ (by rw [if_neg c_4, if_neg c_5])
    · refine lv_iload_n hx hb dX5_sortOf_13 rfl (lv_at hl 0 rfl) ?_
      refine lv_bipush (v := nI 122) hx hb dX5_sortOf_14 rfl ?_
      refine lv_icmp_gt (tgt := 21) hx hb dX5_sortOf_16 (by decide) (fun c_6 => ?_) (fun c_6 => ?_)
      · refine lv_iload_n hx hb dX5_sortOf_21 rfl (lv_at hl 0 rfl) ?_
        refine lv_bipush (v := nI 48) hx hb dX5_sortOf_22 rfl ?_
        refine mv_phi (v := (if le < nI 48 then nI 3 else (if nI 57 < le then nI 3 else nI 2))) (pcj := 38) (ls := ls) (rest' := []) ?_ (fun J_7 => ?_)
        · have hf : (f_X5_sortOf le) = (if le < nI 48 then nI 3 else (if nI 57 < le then nI 3 else nI 2)) := by rw [f_X5_sortOf, if_neg c_1, if_neg c_2, if_pos c_6]
          exact W.iret (v := (if le < nI 48 then nI 3 else (if nI 57 < le then nI 3 else nI 2))) hx hb hr (fun t ht hW => ⟨(if le < nI 48 then nI 3 else (if nI 57 < le then nI 3 else nI 2)), rfl, hf.symm, ht⟩) (fun _ h => by cases h) dX5_sortOf_38
        · refine lv_icmp_lt (tgt := 37) hx hb dX5_sortOf_24 (by decide) (fun c_8 => ?_) (fun c_8 => ?_)
          · refine lv_iconst (v := nI 3) hx hb dX5_sortOf_37 rfl ?_
            exact J_7 _ (by rw [if_pos c_8])
          · refine lv_iload_n hx hb dX5_sortOf_27 rfl (lv_at hl 0 rfl) ?_
            refine lv_bipush (v := nI 57) hx hb dX5_sortOf_28 rfl ?_
            refine lv_icmp_gt (tgt := 37) hx hb dX5_sortOf_30 (by decide) (fun c_9 => ?_) (fun c_9 => ?_)
            · refine lv_iconst (v := nI 3) hx hb dX5_sortOf_37 rfl ?_
              exact J_7 _ (by rw [if_neg c_8, if_pos c_9])
            · refine lv_iconst (v := nI 2) hx hb dX5_sortOf_33 rfl ?_
              refine lv_goto (tgt := 38) hx hb dX5_sortOf_34 (by decide) ?_
              exact J_7 _ (by rw [if_neg c_8, if_neg c_9])
      · refine lv_iconst (v := nI 1) hx hb dX5_sortOf_19 rfl ?_
        have hf : (f_X5_sortOf le) = nI 1 := by rw [f_X5_sortOf, if_neg c_1, if_neg c_2, if_neg c_6]
        exact W.iret (v := nI 1) hx hb hr (fun t ht hW => ⟨nI 1, rfl, hf.symm, ht⟩) (fun _ h => by cases h) dX5_sortOf_20
  · refine lv_iconst (v := nI 0) hx hb dX5_sortOf_5 rfl ?_
    have hf : (f_X5_sortOf le) = nI 0 := by rw [f_X5_sortOf, if_pos c_1]
    exact W.iret (v := nI 0) hx hb hr (fun t ht hW => ⟨nI 0, rfl, hf.symm, ht⟩) (fun _ h => by cases h) dX5_sortOf_6
def L_X5_step_8 (tx : XTx) : Nat → Nat → Nat
  | 0, wtx2_8 => wtx2_8
  | n_8 + 1, wtx2_8 => (if tx.2.1 ≤ wtx2_8 then wtx2_8 else (if (f_X5_letterAt (tx.1, tx.2.1, wtx2_8, tx.2.2.2.1, tx.2.2.2.2.1, tx.2.2.2.2.2) wtx2_8) = nI 32 then (L_X5_step_8 tx n_8 (wtx2_8 + 1)) else wtx2_8))
def L_X5_step_106 (tx : XTx) (T_8 : Nat) (T_54 : Int32) : Nat → Nat → Nat
  | 0, wtx3_106 => (if (if T_54 = nI 1 then nI 1 else (if T_54 = nI 2 then nI 1 else nI 0)) = 0 then wtx3_106 else wtx3_106)
  | n_106 + 1, wtx3_106 => (if (if T_54 = nI 1 then nI 1 else (if T_54 = nI 2 then nI 1 else nI 0)) = 0 then wtx3_106 else (if tx.2.1 ≤ wtx3_106 then wtx3_106 else (if (f_X5_sortOf (f_X5_letterAt (tx.1, tx.2.1, T_8, wtx3_106, T_54, tx.2.2.2.2.2) wtx3_106)) = T_54 then (L_X5_step_106 tx T_8 T_54 n_106 (wtx3_106 + 1)) else wtx3_106)))
def f_X5_step (tx : XTx) : XTx := (tx.1, tx.2.1, (L_X5_step_8 tx tx.2.1 tx.2.2.2.1), (L_X5_step_106 tx (L_X5_step_8 tx tx.2.1 tx.2.2.2.1) (f_X5_sortOf (f_X5_letterAt (tx.1, tx.2.1, (L_X5_step_8 tx tx.2.1 tx.2.2.2.1), tx.2.2.2.1, tx.2.2.2.2.1, tx.2.2.2.2.2) (L_X5_step_8 tx tx.2.1 tx.2.2.2.1))) tx.2.1 (if (f_X5_sortOf (f_X5_letterAt (tx.1, tx.2.1, (L_X5_step_8 tx tx.2.1 tx.2.2.2.1), tx.2.2.2.1, tx.2.2.2.2.1, tx.2.2.2.2.2) (L_X5_step_8 tx tx.2.1 tx.2.2.2.1))) = 0 then (L_X5_step_8 tx tx.2.1 tx.2.2.2.1) else ((L_X5_step_8 tx tx.2.1 tx.2.2.2.1) + 1))), (f_X5_sortOf (f_X5_letterAt (tx.1, tx.2.1, (L_X5_step_8 tx tx.2.1 tx.2.2.2.1), tx.2.2.2.1, tx.2.2.2.2.1, tx.2.2.2.2.2) (L_X5_step_8 tx tx.2.1 tx.2.2.2.1))), tx.2.2.2.2.2)
abbrev rm_X5_step : Room := { frames := 1, cells := 0, slots := 0, locals := 21 }
set_option maxHeartbeats 4000000 in
set_option maxRecDepth 100000 in
theorem c_X5_step (l : Launch) (D : va_G) (cI cL cZ : ClassId) (ad : Nat → Nat) (A : Nat → Prop) (tx : XTx) (td : XTd) (dr : XTd) (dy : XDy) (lb : (Nat → Int32)) (pn : (Nat × Nat)) (ps : XSh) (ks : XSh) (si : XSi) (kb : Int32)  (hl0 : tx.2.1 ≤ 160) (he0 : tx.2.2.2.1 ≤ tx.2.1) : Met l yX5_step wsX5_step rm_X5_step (va_Pc [.ref (ad 1)] (sR D cI cL cZ A (xW cI cL cZ ad tx td dr dy lb pn ps ks si kb))) (va_Qv (fun (u : XTx) => u = (f_X5_step tx)) (fun (u : XTx) t => va_P D vwCl (xW cI cL cZ ad u td dr dy lb pn ps ks si kb) t.heap) A) 0 0 A := by
  refine Met.ofW (cc := cX5_step) (maxL := 2) (ret := none) (by decide) rfl ?_
  intro p e s m args below meth c s₁ B hml hv
  obtain ⟨rfl, hP, hK, hD, hE⟩ := hv
  have hx := B.exec
  have hb := B.bytes
  have hr := B.returns
  have hts := atoms_spec (ws := wsX5_step) B.pre
  have hown : s.vm.findClass RX5 = some m.cls := findClass_of_methodNamed B.named
  have hlocks := B.notSynchronized
  have hS : va_S A s.heap s.heap [] := va_S.rf
  have hl := lv_entry ([.ref (ad 1)]) (n := 2) (Nat.le_of_ble_eq_true rfl)
  rw [lg_entry_eq]
  generalize (lg_sl ([.ref (ad 1)]) ++ List.replicate (2 - (lg_sl ([.ref (ad 1)])).length) Slot.unset).toArray = ls at hl ⊢
  have hl : lv_has ls 2 [(0, .ref (ad 1))] := hl
  obtain ⟨Q, hQe⟩ : ∃ Q, Q = MQ below (va_Qv (fun (u : XTx) => u = (f_X5_step tx)) (fun (u : XTx) t => va_P D vwCl (xW cI cL cZ ad u td dr dy lb pn ps ks si kb) t.heap) A) ([.ref (ad 1)] : List Value).toArray s 0 0 A := ⟨_, rfl⟩
  show W p l e (headSpec wsX5_step rm_X5_step).room s m ([.ref (ad 1)] : List Value).toArray below meth c s.heap [] 0 0 (MQ below (va_Qv (fun (u : XTx) => u = (f_X5_step tx)) (fun (u : XTx) t => va_P D vwCl (xW cI cL cZ ad u td dr dy lb pn ps ks si kb) t.heap) A) ([.ref (ad 1)] : List Value).toArray s 0 0 A) (F0 m 0 ls [])
  rw [← hQe]
  refine lv_aload_n hx hb dX5_step_0 rfl (lv_at hl 0 rfl) ?_
  refine lv_aload_n hx hb dX5_step_1 rfl (lv_at hl 0 rfl) ?_
  refine va_get (D := D) (ci := 5) (v := .int (nI tx.2.2.2.1)) (C := RX5) (T := TX5) (N := 6) hx hb hts (by decide +kernel) hown hK hP 1 rfl rfl 3 (by decide) (hts (.fieldLink RX5 22 "SummitTime$Text" "end" "I") (by decide +kernel)) (fun _ h9 => h9) rfl dX5_step_2 ?_
  refine va_put (D := D) (ci := 5) (v := .int (nI tx.2.2.2.1)) (ty := .int) (C := RX5) (T := TX5) (N := 6) hx hb hts (by decide +kernel) tyX5 tyX5_ok nmX5 hown hK hP hD hS 1 rfl rfl 2 (by decide) (hts (.fieldLink RX5 29 "SummitTime$Text" "begin" "I") (by decide +kernel)) (fun _ h9 => h9) rfl (by decide +kernel) rfl rfl (Nat.le_of_ble_eq_true rfl) dX5_step_5 (fun H locs hP hD hS => ?_)
  have hP : va_P D vwCl (xW cI cL cZ ad (tx.1, tx.2.1, tx.2.2.2.1, tx.2.2.2.1, tx.2.2.2.2.1, tx.2.2.2.2.2) td dr dy lb pn ps ks si kb) H := hP
  have hD : va_D A (xW cI cL cZ ad (tx.1, tx.2.1, tx.2.2.2.1, tx.2.2.2.1, tx.2.2.2.2.1, tx.2.2.2.2.2) td dr dy lb pn ps ks si kb) := hD
  obtain ⟨T_8_1, hT_8_1⟩ : ∃ z, z = (L_X5_step_8 tx tx.2.1 tx.2.2.2.1) := ⟨_, rfl⟩
  have hexit_8 : ∀ (H : Heap) (locs : List Loc) (ls : Array Slot), (T_8_1 ≤ tx.2.1) → va_P D vwCl (xW cI cL cZ ad (tx.1, tx.2.1, T_8_1, tx.2.2.2.1, tx.2.2.2.2.1, tx.2.2.2.2.2) td dr dy lb pn ps ks si kb) H → va_S A s.heap H locs → lv_has ls 2 [(0, .ref (ad 1))] → W p l e (headSpec wsX5_step rm_X5_step).room s m ([.ref (ad 1)] : List Value).toArray below meth c H locs 0 0 Q (F0 m 45 ls []) := by
    intro H locs ls p0 hP hS hl
    have hD : va_D A (xW cI cL cZ ad (tx.1, tx.2.1, T_8_1, tx.2.2.2.1, tx.2.2.2.2.1, tx.2.2.2.2.2) td dr dy lb pn ps ks si kb) := xW_D hD
    refine lv_aload_n hx hb dX5_step_45 rfl (lv_at hl 0 rfl) ?_
    refine lv_aload_n hx hb dX5_step_46 rfl (lv_at hl 0 rfl) ?_
    refine lv_aload_n hx hb dX5_step_47 rfl (lv_at hl 0 rfl) ?_
    refine va_get (D := D) (ci := 5) (v := .int (nI T_8_1)) (C := RX5) (T := TX5) (N := 6) hx hb hts (by decide +kernel) hown hK hP 1 rfl rfl 2 (by decide) (hts (.fieldLink RX5 29 "SummitTime$Text" "begin" "I") (by decide +kernel)) (fun _ h9 => h9) rfl dX5_step_48 ?_
    refine vp_callSi (va_Run.run (va_runV (As := [.int (nI T_8_1)]) (rest := [.ref (ad 1)]) ⟨hx, hb, hml, hown, hts⟩ (c_X5_letterAt l D cI cL cZ ad A (tx.1, tx.2.1, T_8_1, tx.2.2.2.1, tx.2.2.2.2.1, tx.2.2.2.2.2) td dr dy lb pn ps ks si kb T_8_1 (by first | assumption | omega) (by first | assumption | omega)) (cwV 1 hts gX5_step_X5_letterAt rfl rfl rfl (by decide +kernel) ⟨Nat.le_of_ble_eq_true rfl, Nat.le_of_ble_eq_true rfl⟩) ⟨sR_fb, va_recv hK hP (ci := 5) (q0 := 1) rfl rfl, sR_at hP hK hD hE⟩ rfl rfl hl.1 rfl (lv_room (Nat.le_of_ble_eq_true rfl)) dX5_step_51 ⟨Nat.zero_le _, Nat.zero_le _⟩)) (fun r hr => ?_)
    subst hr
    refine vp_callSi (va_Run.run (va_runS (As := [.int (f_X5_letterAt (tx.1, tx.2.1, T_8_1, tx.2.2.2.1, tx.2.2.2.2.1, tx.2.2.2.2.2) T_8_1)]) (rest := [.ref (ad 1)]) ⟨hx, hb, hml, hown, hts⟩ (c_X5_sortOf l (f_X5_letterAt (tx.1, tx.2.1, T_8_1, tx.2.2.2.1, tx.2.2.2.2.1, tx.2.2.2.2.2) T_8_1) ) (va_cwS 1 hts gX5_step_X5_sortOf rfl rfl rfl (by decide +kernel) ⟨Nat.le_of_ble_eq_true rfl, Nat.le_of_ble_eq_true rfl⟩) ⟨pR_fb, pR_at⟩ rfl rfl hl.1 rfl (lv_room (Nat.le_of_ble_eq_true rfl)) dX5_step_54 ⟨Nat.zero_le _, Nat.zero_le _⟩)) (fun r hr => ?_)
    subst hr
    obtain ⟨T_54_2, hT_54_2⟩ : ∃ z, z = (f_X5_sortOf (f_X5_letterAt (tx.1, tx.2.1, T_8_1, tx.2.2.2.1, tx.2.2.2.2.1, tx.2.2.2.2.2) T_8_1)) := ⟨_, rfl⟩
    refine mv_top (y := T_54_2) hT_54_2.symm ?_
    refine va_put (D := D) (ci := 5) (v := .int T_54_2) (ty := .int) (C := RX5) (T := TX5) (N := 6) hx hb hts (by decide +kernel) tyX5 tyX5_ok nmX5 hown hK hP hD hS 1 rfl rfl 4 (by decide) (hts (.fieldLink RX5 35 "SummitTime$Text" "sort" "I") (by decide +kernel)) (fun _ h9 => h9) rfl (by decide +kernel) rfl rfl (Nat.le_of_ble_eq_true rfl) dX5_step_57 (fun H locs hP hD hS => ?_)
    have hP : va_P D vwCl (xW cI cL cZ ad (tx.1, tx.2.1, T_8_1, tx.2.2.2.1, T_54_2, tx.2.2.2.2.2) td dr dy lb pn ps ks si kb) H := hP
    have hD : va_D A (xW cI cL cZ ad (tx.1, tx.2.1, T_8_1, tx.2.2.2.1, T_54_2, tx.2.2.2.2.2) td dr dy lb pn ps ks si kb) := hD
    refine lv_aload_n hx hb dX5_step_60 rfl (lv_at hl 0 rfl) ?_
    refine lv_aload_n hx hb dX5_step_61 rfl (lv_at hl 0 rfl) ?_
    refine va_get (D := D) (ci := 5) (v := .int T_54_2) (C := RX5) (T := TX5) (N := 6) hx hb hts (by decide +kernel) hown hK hP 1 rfl rfl 4 (by decide) (hts (.fieldLink RX5 35 "SummitTime$Text" "sort" "I") (by decide +kernel)) (fun _ h9 => h9) rfl dX5_step_62 ?_
    refine mv_phi (v := nI (if T_54_2 = 0 then T_8_1 else (T_8_1 + 1))) (pcj := 81) (ls := ls) (rest' := [.ref (ad 1)]) ?_ (fun J_12 => ?_)
    · refine va_put (D := D) (ci := 5) (v := .int (nI (if T_54_2 = 0 then T_8_1 else (T_8_1 + 1)))) (ty := .int) (C := RX5) (T := TX5) (N := 6) hx hb hts (by decide +kernel) tyX5 tyX5_ok nmX5 hown hK hP hD hS 1 rfl rfl 3 (by decide) (hts (.fieldLink RX5 22 "SummitTime$Text" "end" "I") (by decide +kernel)) (fun _ h9 => h9) rfl (by decide +kernel) rfl rfl (Nat.le_of_ble_eq_true rfl) dX5_step_81 (fun H locs hP hD hS => ?_)
      have hP : va_P D vwCl (xW cI cL cZ ad (tx.1, tx.2.1, T_8_1, (if T_54_2 = 0 then T_8_1 else (T_8_1 + 1)), T_54_2, tx.2.2.2.2.2) td dr dy lb pn ps ks si kb) H := hP
      have hD : va_D A (xW cI cL cZ ad (tx.1, tx.2.1, T_8_1, (if T_54_2 = 0 then T_8_1 else (T_8_1 + 1)), T_54_2, tx.2.2.2.2.2) td dr dy lb pn ps ks si kb) := hD
      refine lv_aload_n hx hb dX5_step_84 rfl (lv_at hl 0 rfl) ?_
      refine va_get (D := D) (ci := 5) (v := .int T_54_2) (C := RX5) (T := TX5) (N := 6) hx hb hts (by decide +kernel) hown hK hP 1 rfl rfl 4 (by decide) (hts (.fieldLink RX5 35 "SummitTime$Text" "sort" "I") (by decide +kernel)) (fun _ h9 => h9) rfl dX5_step_85 ?_
      refine lv_iconst (v := nI 1) hx hb dX5_step_88 rfl ?_
      refine mv_phi (v := (if T_54_2 = nI 1 then nI 1 else (if T_54_2 = nI 2 then nI 1 else nI 0))) (pcj := 105) (ls := ls) (rest' := []) ?_ (fun J_9 => ?_)
      · refine lv_istore_n (lv' := [(1, .int (if T_54_2 = nI 1 then nI 1 else (if T_54_2 = nI 2 then nI 1 else nI 0))), (0, .ref (ad 1))]) hx hb dX5_step_105 rfl hl (by decide) rfl (fun ls hl => ?_)
        obtain ⟨T_106_3, hT_106_3⟩ : ∃ z, z = (L_X5_step_106 tx T_8_1 T_54_2 tx.2.1 (if T_54_2 = 0 then T_8_1 else (T_8_1 + 1))) := ⟨_, rfl⟩
        have hexit_106 : ∀ (H : Heap) (locs : List Loc) (ls : Array Slot), va_P D vwCl (xW cI cL cZ ad (tx.1, tx.2.1, T_8_1, T_106_3, T_54_2, tx.2.2.2.2.2) td dr dy lb pn ps ks si kb) H → va_S A s.heap H locs → lv_has ls 2 [(1, .int (if T_54_2 = nI 1 then nI 1 else (if T_54_2 = nI 2 then nI 1 else nI 0))), (0, .ref (ad 1))] → W p l e (headSpec wsX5_step rm_X5_step).room s m ([.ref (ad 1)] : List Value).toArray below meth c H locs 0 0 Q (F0 m 152 ls []) := by
          intro H locs ls hP hS hl
          have hD : va_D A (xW cI cL cZ ad (tx.1, tx.2.1, T_8_1, T_106_3, T_54_2, tx.2.2.2.2.2) td dr dy lb pn ps ks si kb) := xW_D hD
          subst hQe
          have hf : (f_X5_step tx) = (tx.1, tx.2.1, T_8_1, T_106_3, T_54_2, tx.2.2.2.2.2) := by rw [f_X5_step]; (try rw [← hT_8_1]); (try rw [← hT_54_2]); (try rw [← hT_106_3]); first | done | rfl
          exact W.vret hx hb hr (fun t ht hW => ⟨⟨(tx.1, tx.2.1, T_8_1, T_106_3, T_54_2, tx.2.2.2.2.2), rfl, hf.symm, va_Pt ht hP⟩, hS.F ht⟩) hS.2.2 dX5_step_152
        have loop_106 : ∀ (n_106 : Nat) (wtx3_106 : Nat), (tx.2.1 ≤ wtx3_106 + n_106) → (wtx3_106 ≤ 161) → L_X5_step_106 tx T_8_1 T_54_2 n_106 wtx3_106 = T_106_3 → ∀ (H : Heap) (locs : List Loc) (ls : Array Slot), va_P D vwCl (xW cI cL cZ ad (tx.1, tx.2.1, T_8_1, wtx3_106, T_54_2, tx.2.2.2.2.2) td dr dy lb pn ps ks si kb) H → va_S A s.heap H locs → lv_has ls 2 [(1, .int (if T_54_2 = nI 1 then nI 1 else (if T_54_2 = nI 2 then nI 1 else nI 0))), (0, .ref (ad 1))] → W p l e (headSpec wsX5_step rm_X5_step).room s m ([.ref (ad 1)] : List Value).toArray below meth c H locs 0 0 Q (F0 m 106 ls []) := by
          intro n_106
          induction n_106 with
          | zero =>
            intro wtx3_106 j0 j1 hL_106 H locs ls hP hS hl
            have hD : va_D A (xW cI cL cZ ad (tx.1, tx.2.1, T_8_1, wtx3_106, T_54_2, tx.2.2.2.2.2) td dr dy lb pn ps ks si kb) := xW_D hD
            refine lv_iload_n hx hb dX5_step_106 rfl (lv_at hl 0 rfl) ?_
            refine lv_if_eq (tgt := 152) hx hb dX5_step_107 (by decide) (fun c_7 => ?_) (fun c_7 => ?_)
            · have e9 : T_106_3 = wtx3_106 := by rw [← hL_106, L_X5_step_106, if_pos c_7]
              have hq := hexit_106
              rw [e9] at hq
              exact hq _ _ ls  hP hS (lv_sub hl [0, 1] rfl)
            · refine lv_aload_n hx hb dX5_step_110 rfl (lv_at hl 1 rfl) ?_
              refine va_get (D := D) (ci := 5) (v := .int (nI wtx3_106)) (C := RX5) (T := TX5) (N := 6) hx hb hts (by decide +kernel) hown hK hP 1 rfl rfl 3 (by decide) (hts (.fieldLink RX5 22 "SummitTime$Text" "end" "I") (by decide +kernel)) (fun _ h9 => h9) rfl dX5_step_111 ?_
              refine lv_aload_n hx hb dX5_step_114 rfl (lv_at hl 1 rfl) ?_
              refine va_get (D := D) (ci := 5) (v := .int (nI tx.2.1)) (C := RX5) (T := TX5) (N := 6) hx hb hts (by decide +kernel) hown hK hP 1 rfl rfl 1 (by decide) (hts (.fieldLink RX5 15 "SummitTime$Text" "length" "I") (by decide +kernel)) (fun _ h9 => h9) rfl dX5_step_115 ?_
              refine mv_icmp_ge (tgt := 152) hx hb dX5_step_118 (by decide) (by omega) (by omega) (fun c_8 => ?_) (fun c_8 => (by omega : False).elim)
              have e9 : T_106_3 = wtx3_106 := by rw [← hL_106, L_X5_step_106, if_neg c_7]
              have hq := hexit_106
              rw [e9] at hq
              exact hq _ _ ls  hP hS (lv_sub hl [0, 1] rfl)
          | succ n_106 ih_106 =>
            intro wtx3_106 j0 j1 hL_106 H locs ls hP hS hl
            have hD : va_D A (xW cI cL cZ ad (tx.1, tx.2.1, T_8_1, wtx3_106, T_54_2, tx.2.2.2.2.2) td dr dy lb pn ps ks si kb) := xW_D hD
            refine lv_iload_n hx hb dX5_step_106 rfl (lv_at hl 0 rfl) ?_
            refine lv_if_eq (tgt := 152) hx hb dX5_step_107 (by decide) (fun c_4 => ?_) (fun c_4 => ?_)
            · have e9 : T_106_3 = wtx3_106 := by rw [← hL_106, L_X5_step_106, if_pos c_4]
              have hq := hexit_106
              rw [e9] at hq
              exact hq _ _ ls  hP hS (lv_sub hl [0, 1] rfl)
            · refine lv_aload_n hx hb dX5_step_110 rfl (lv_at hl 1 rfl) ?_
              refine va_get (D := D) (ci := 5) (v := .int (nI wtx3_106)) (C := RX5) (T := TX5) (N := 6) hx hb hts (by decide +kernel) hown hK hP 1 rfl rfl 3 (by decide) (hts (.fieldLink RX5 22 "SummitTime$Text" "end" "I") (by decide +kernel)) (fun _ h9 => h9) rfl dX5_step_111 ?_
              refine lv_aload_n hx hb dX5_step_114 rfl (lv_at hl 1 rfl) ?_
              refine va_get (D := D) (ci := 5) (v := .int (nI tx.2.1)) (C := RX5) (T := TX5) (N := 6) hx hb hts (by decide +kernel) hown hK hP 1 rfl rfl 1 (by decide) (hts (.fieldLink RX5 15 "SummitTime$Text" "length" "I") (by decide +kernel)) (fun _ h9 => h9) rfl dX5_step_115 ?_
              refine mv_icmp_ge (tgt := 152) hx hb dX5_step_118 (by decide) (by omega) (by omega) (fun c_5 => ?_) (fun c_5 => ?_)
              · have e9 : T_106_3 = wtx3_106 := by rw [← hL_106, L_X5_step_106, if_neg c_4, if_pos c_5]
                have hq := hexit_106
                rw [e9] at hq
                exact hq _ _ ls  hP hS (lv_sub hl [0, 1] rfl)
              · refine lv_aload_n hx hb dX5_step_121 rfl (lv_at hl 1 rfl) ?_
                refine lv_aload_n hx hb dX5_step_122 rfl (lv_at hl 1 rfl) ?_
                refine va_get (D := D) (ci := 5) (v := .int (nI wtx3_106)) (C := RX5) (T := TX5) (N := 6) hx hb hts (by decide +kernel) hown hK hP 1 rfl rfl 3 (by decide) (hts (.fieldLink RX5 22 "SummitTime$Text" "end" "I") (by decide +kernel)) (fun _ h9 => h9) rfl dX5_step_123 ?_
                refine vp_callSi (va_Run.run (va_runV (As := [.int (nI wtx3_106)]) (rest := []) ⟨hx, hb, hml, hown, hts⟩ (c_X5_letterAt l D cI cL cZ ad A (tx.1, tx.2.1, T_8_1, wtx3_106, T_54_2, tx.2.2.2.2.2) td dr dy lb pn ps ks si kb wtx3_106 (by first | assumption | omega) (by first | assumption | omega)) (cwV 1 hts gX5_step_X5_letterAt rfl rfl rfl (by decide +kernel) ⟨Nat.le_of_ble_eq_true rfl, Nat.le_of_ble_eq_true rfl⟩) ⟨sR_fb, va_recv hK hP (ci := 5) (q0 := 1) rfl rfl, sR_at hP hK hD hE⟩ rfl rfl hl.1 rfl (lv_room (Nat.le_of_ble_eq_true rfl)) dX5_step_126 ⟨Nat.zero_le _, Nat.zero_le _⟩)) (fun r hr => ?_)
                subst hr
                refine vp_callSi (va_Run.run (va_runS (As := [.int (f_X5_letterAt (tx.1, tx.2.1, T_8_1, wtx3_106, T_54_2, tx.2.2.2.2.2) wtx3_106)]) (rest := []) ⟨hx, hb, hml, hown, hts⟩ (c_X5_sortOf l (f_X5_letterAt (tx.1, tx.2.1, T_8_1, wtx3_106, T_54_2, tx.2.2.2.2.2) wtx3_106) ) (va_cwS 1 hts gX5_step_X5_sortOf rfl rfl rfl (by decide +kernel) ⟨Nat.le_of_ble_eq_true rfl, Nat.le_of_ble_eq_true rfl⟩) ⟨pR_fb, pR_at⟩ rfl rfl hl.1 rfl (lv_room (Nat.le_of_ble_eq_true rfl)) dX5_step_129 ⟨Nat.zero_le _, Nat.zero_le _⟩)) (fun r hr => ?_)
                subst hr
                refine lv_aload_n hx hb dX5_step_132 rfl (lv_at hl 1 rfl) ?_
                refine va_get (D := D) (ci := 5) (v := .int T_54_2) (C := RX5) (T := TX5) (N := 6) hx hb hts (by decide +kernel) hown hK hP 1 rfl rfl 4 (by decide) (hts (.fieldLink RX5 35 "SummitTime$Text" "sort" "I") (by decide +kernel)) (fun _ h9 => h9) rfl dX5_step_133 ?_
                refine lv_icmp_ne (tgt := 152) hx hb dX5_step_136 (by decide) (fun c_6 => ?_) (fun c_6 => ?_)
                · have e9 : T_106_3 = wtx3_106 := by rw [← hL_106, L_X5_step_106, if_neg c_4, if_neg c_5, if_neg c_6]
                  have hq := hexit_106
                  rw [e9] at hq
                  exact hq _ _ ls  hP hS (lv_sub hl [0, 1] rfl)
                · refine lv_aload_n hx hb dX5_step_139 rfl (lv_at hl 1 rfl) ?_
                  refine lv_dup hx hb dX5_step_140 rfl ?_
                  refine va_get (D := D) (ci := 5) (v := .int (nI wtx3_106)) (C := RX5) (T := TX5) (N := 6) hx hb hts (by decide +kernel) hown hK hP 1 rfl rfl 3 (by decide) (hts (.fieldLink RX5 22 "SummitTime$Text" "end" "I") (by decide +kernel)) (fun _ h9 => h9) rfl dX5_step_141 ?_
                  refine lv_iconst (v := nI 1) hx hb dX5_step_144 rfl ?_
                  refine mv_iadd hx hb dX5_step_145 ?_
                  refine va_put (D := D) (ci := 5) (v := .int (nI (wtx3_106 + 1))) (ty := .int) (C := RX5) (T := TX5) (N := 6) hx hb hts (by decide +kernel) tyX5 tyX5_ok nmX5 hown hK hP hD hS 1 rfl rfl 3 (by decide) (hts (.fieldLink RX5 22 "SummitTime$Text" "end" "I") (by decide +kernel)) (fun _ h9 => h9) rfl (by decide +kernel) rfl rfl (Nat.le_of_ble_eq_true rfl) dX5_step_146 (fun H locs hP hD hS => ?_)
                  have hP : va_P D vwCl (xW cI cL cZ ad (tx.1, tx.2.1, T_8_1, (wtx3_106 + 1), T_54_2, tx.2.2.2.2.2) td dr dy lb pn ps ks si kb) H := hP
                  have hD : va_D A (xW cI cL cZ ad (tx.1, tx.2.1, T_8_1, (wtx3_106 + 1), T_54_2, tx.2.2.2.2.2) td dr dy lb pn ps ks si kb) := hD
                  refine lv_goto (tgt := 106) hx hb dX5_step_149 (by decide) ?_
                  exact ih_106 (wtx3_106 + 1) (by omega) (by omega) (by have e9 := hL_106; rw [L_X5_step_106, if_neg c_4, if_neg c_5, if_pos c_6] at e9; exact e9) _ _ ls hP hS (lv_sub hl [0, 1] rfl)
        exact loop_106 tx.2.1 (if T_54_2 = 0 then T_8_1 else (T_8_1 + 1)) (Nat.le_add_left _ _) (by split <;> omega) hT_106_3.symm _ _ ls hP hS (lv_sub hl [0, 1] rfl)
      · refine lv_icmp_eq (tgt := 100) hx hb dX5_step_89 (by decide) (fun c_10 => ?_) (fun c_10 => ?_)
        · refine lv_iconst (v := nI 1) hx hb dX5_step_100 rfl ?_
          refine lv_goto (tgt := 105) hx hb dX5_step_101 (by decide) ?_
          exact J_9 _ (by rw [if_pos c_10])
        · refine lv_aload_n hx hb dX5_step_92 rfl (lv_at hl 0 rfl) ?_
          refine va_get (D := D) (ci := 5) (v := .int T_54_2) (C := RX5) (T := TX5) (N := 6) hx hb hts (by decide +kernel) hown hK hP 1 rfl rfl 4 (by decide) (hts (.fieldLink RX5 35 "SummitTime$Text" "sort" "I") (by decide +kernel)) (fun _ h9 => h9) rfl dX5_step_93 ?_
          refine lv_iconst (v := nI 2) hx hb dX5_step_96 rfl ?_
          refine lv_icmp_ne (tgt := 104) hx hb dX5_step_97 (by decide) (fun c_11 => ?_) (fun c_11 => ?_)
          · refine lv_iconst (v := nI 0) hx hb dX5_step_104 rfl ?_
            exact J_9 _ (by rw [if_neg c_10, if_neg c_11])
          · refine lv_iconst (v := nI 1) hx hb dX5_step_100 rfl ?_
            refine lv_goto (tgt := 105) hx hb dX5_step_101 (by decide) ?_
            exact J_9 _ (by rw [if_neg c_10, if_pos c_11])
    · refine lv_if_ne (tgt := 75) hx hb dX5_step_65 (by decide) (fun c_13 => ?_) (fun c_13 => ?_)
      · refine lv_aload_n hx hb dX5_step_75 rfl (lv_at hl 0 rfl) ?_
        refine va_get (D := D) (ci := 5) (v := .int (nI T_8_1)) (C := RX5) (T := TX5) (N := 6) hx hb hts (by decide +kernel) hown hK hP 1 rfl rfl 2 (by decide) (hts (.fieldLink RX5 29 "SummitTime$Text" "begin" "I") (by decide +kernel)) (fun _ h9 => h9) rfl dX5_step_76 ?_
        refine lv_iconst (v := nI 1) hx hb dX5_step_79 rfl ?_
        refine mv_iadd hx hb dX5_step_80 ?_
        exact J_12 _ (by rw [if_neg c_13])
      · refine lv_aload_n hx hb dX5_step_68 rfl (lv_at hl 0 rfl) ?_
        refine va_get (D := D) (ci := 5) (v := .int (nI T_8_1)) (C := RX5) (T := TX5) (N := 6) hx hb hts (by decide +kernel) hown hK hP 1 rfl rfl 2 (by decide) (hts (.fieldLink RX5 29 "SummitTime$Text" "begin" "I") (by decide +kernel)) (fun _ h9 => h9) rfl dX5_step_69 ?_
        refine lv_goto (tgt := 81) hx hb dX5_step_72 (by decide) ?_
        exact J_12 _ (by rw [if_pos c_13])
  have loop_8 : ∀ (n_8 : Nat) (wtx2_8 : Nat), (tx.2.1 ≤ wtx2_8 + n_8) → (wtx2_8 ≤ tx.2.1) → L_X5_step_8 tx n_8 wtx2_8 = T_8_1 → ∀ (H : Heap) (locs : List Loc) (ls : Array Slot), va_P D vwCl (xW cI cL cZ ad (tx.1, tx.2.1, wtx2_8, tx.2.2.2.1, tx.2.2.2.2.1, tx.2.2.2.2.2) td dr dy lb pn ps ks si kb) H → va_S A s.heap H locs → lv_has ls 2 [(0, .ref (ad 1))] → W p l e (headSpec wsX5_step rm_X5_step).room s m ([.ref (ad 1)] : List Value).toArray below meth c H locs 0 0 Q (F0 m 8 ls []) := by
    intro n_8
    induction n_8 with
    | zero =>
      intro wtx2_8 h0 h1 hL_8 H locs ls hP hS hl
      have hD : va_D A (xW cI cL cZ ad (tx.1, tx.2.1, wtx2_8, tx.2.2.2.1, tx.2.2.2.2.1, tx.2.2.2.2.2) td dr dy lb pn ps ks si kb) := xW_D hD
      refine lv_aload_n hx hb dX5_step_8 rfl (lv_at hl 0 rfl) ?_
      refine va_get (D := D) (ci := 5) (v := .int (nI wtx2_8)) (C := RX5) (T := TX5) (N := 6) hx hb hts (by decide +kernel) hown hK hP 1 rfl rfl 2 (by decide) (hts (.fieldLink RX5 29 "SummitTime$Text" "begin" "I") (by decide +kernel)) (fun _ h9 => h9) rfl dX5_step_9 ?_
      refine lv_aload_n hx hb dX5_step_12 rfl (lv_at hl 0 rfl) ?_
      refine va_get (D := D) (ci := 5) (v := .int (nI tx.2.1)) (C := RX5) (T := TX5) (N := 6) hx hb hts (by decide +kernel) hown hK hP 1 rfl rfl 1 (by decide) (hts (.fieldLink RX5 15 "SummitTime$Text" "length" "I") (by decide +kernel)) (fun _ h9 => h9) rfl dX5_step_13 ?_
      refine mv_icmp_ge (tgt := 45) hx hb dX5_step_16 (by decide) (by omega) (by omega) (fun c_3 => ?_) (fun c_3 => (by omega : False).elim)
      have e9 : T_8_1 = wtx2_8 := by rw [← hL_8, L_X5_step_8]
      have hq := hexit_8
      rw [e9] at hq
      exact hq _ _ ls h1 hP hS (lv_sub hl [0] rfl)
    | succ n_8 ih_8 =>
      intro wtx2_8 h0 h1 hL_8 H locs ls hP hS hl
      have hD : va_D A (xW cI cL cZ ad (tx.1, tx.2.1, wtx2_8, tx.2.2.2.1, tx.2.2.2.2.1, tx.2.2.2.2.2) td dr dy lb pn ps ks si kb) := xW_D hD
      refine lv_aload_n hx hb dX5_step_8 rfl (lv_at hl 0 rfl) ?_
      refine va_get (D := D) (ci := 5) (v := .int (nI wtx2_8)) (C := RX5) (T := TX5) (N := 6) hx hb hts (by decide +kernel) hown hK hP 1 rfl rfl 2 (by decide) (hts (.fieldLink RX5 29 "SummitTime$Text" "begin" "I") (by decide +kernel)) (fun _ h9 => h9) rfl dX5_step_9 ?_
      refine lv_aload_n hx hb dX5_step_12 rfl (lv_at hl 0 rfl) ?_
      refine va_get (D := D) (ci := 5) (v := .int (nI tx.2.1)) (C := RX5) (T := TX5) (N := 6) hx hb hts (by decide +kernel) hown hK hP 1 rfl rfl 1 (by decide) (hts (.fieldLink RX5 15 "SummitTime$Text" "length" "I") (by decide +kernel)) (fun _ h9 => h9) rfl dX5_step_13 ?_
      refine mv_icmp_ge (tgt := 45) hx hb dX5_step_16 (by decide) (by omega) (by omega) (fun c_1 => ?_) (fun c_1 => ?_)
      · have e9 : T_8_1 = wtx2_8 := by rw [← hL_8, L_X5_step_8, if_pos c_1]
        have hq := hexit_8
        rw [e9] at hq
        exact hq _ _ ls h1 hP hS (lv_sub hl [0] rfl)
      · refine lv_aload_n hx hb dX5_step_19 rfl (lv_at hl 0 rfl) ?_
        refine lv_aload_n hx hb dX5_step_20 rfl (lv_at hl 0 rfl) ?_
        refine va_get (D := D) (ci := 5) (v := .int (nI wtx2_8)) (C := RX5) (T := TX5) (N := 6) hx hb hts (by decide +kernel) hown hK hP 1 rfl rfl 2 (by decide) (hts (.fieldLink RX5 29 "SummitTime$Text" "begin" "I") (by decide +kernel)) (fun _ h9 => h9) rfl dX5_step_21 ?_
        refine vp_callSi (va_Run.run (va_runV (As := [.int (nI wtx2_8)]) (rest := []) ⟨hx, hb, hml, hown, hts⟩ (c_X5_letterAt l D cI cL cZ ad A (tx.1, tx.2.1, wtx2_8, tx.2.2.2.1, tx.2.2.2.2.1, tx.2.2.2.2.2) td dr dy lb pn ps ks si kb wtx2_8 (by first | assumption | omega) (by first | assumption | omega)) (cwV 1 hts gX5_step_X5_letterAt rfl rfl rfl (by decide +kernel) ⟨Nat.le_of_ble_eq_true rfl, Nat.le_of_ble_eq_true rfl⟩) ⟨sR_fb, va_recv hK hP (ci := 5) (q0 := 1) rfl rfl, sR_at hP hK hD hE⟩ rfl rfl hl.1 rfl (lv_room (Nat.le_of_ble_eq_true rfl)) dX5_step_24 ⟨Nat.zero_le _, Nat.zero_le _⟩)) (fun r hr => ?_)
        subst hr
        refine lv_bipush (v := nI 32) hx hb dX5_step_27 rfl ?_
        refine lv_icmp_ne (tgt := 45) hx hb dX5_step_29 (by decide) (fun c_2 => ?_) (fun c_2 => ?_)
        · have e9 : T_8_1 = wtx2_8 := by rw [← hL_8, L_X5_step_8, if_neg c_1, if_neg c_2]
          have hq := hexit_8
          rw [e9] at hq
          exact hq _ _ ls h1 hP hS (lv_sub hl [0] rfl)
        · refine lv_aload_n hx hb dX5_step_32 rfl (lv_at hl 0 rfl) ?_
          refine lv_dup hx hb dX5_step_33 rfl ?_
          refine va_get (D := D) (ci := 5) (v := .int (nI wtx2_8)) (C := RX5) (T := TX5) (N := 6) hx hb hts (by decide +kernel) hown hK hP 1 rfl rfl 2 (by decide) (hts (.fieldLink RX5 29 "SummitTime$Text" "begin" "I") (by decide +kernel)) (fun _ h9 => h9) rfl dX5_step_34 ?_
          refine lv_iconst (v := nI 1) hx hb dX5_step_37 rfl ?_
          refine mv_iadd hx hb dX5_step_38 ?_
          refine va_put (D := D) (ci := 5) (v := .int (nI (wtx2_8 + 1))) (ty := .int) (C := RX5) (T := TX5) (N := 6) hx hb hts (by decide +kernel) tyX5 tyX5_ok nmX5 hown hK hP hD hS 1 rfl rfl 2 (by decide) (hts (.fieldLink RX5 29 "SummitTime$Text" "begin" "I") (by decide +kernel)) (fun _ h9 => h9) rfl (by decide +kernel) rfl rfl (Nat.le_of_ble_eq_true rfl) dX5_step_39 (fun H locs hP hD hS => ?_)
          have hP : va_P D vwCl (xW cI cL cZ ad (tx.1, tx.2.1, (wtx2_8 + 1), tx.2.2.2.1, tx.2.2.2.2.1, tx.2.2.2.2.2) td dr dy lb pn ps ks si kb) H := hP
          have hD : va_D A (xW cI cL cZ ad (tx.1, tx.2.1, (wtx2_8 + 1), tx.2.2.2.1, tx.2.2.2.2.1, tx.2.2.2.2.2) td dr dy lb pn ps ks si kb) := hD
          refine lv_goto (tgt := 8) hx hb dX5_step_42 (by decide) ?_
          exact ih_8 (wtx2_8 + 1) (by omega) (by omega) (by have e9 := hL_8; rw [L_X5_step_8, if_neg c_1, if_pos c_2] at e9; exact e9) _ _ ls hP hS (lv_sub hl [0] rfl)
  exact loop_8 tx.2.1 tx.2.2.2.1 (by omega) (by omega) hT_8_1.symm _ _ ls hP hS (lv_sub hl [0] rfl)
