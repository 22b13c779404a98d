def mN (to : Nat → Int32) : Nat := (to 0).toNatClampNeg
def f_X8_in (v : Int64) (lo : Int64) (hi : Int64) : Int32 := (if (lg_cmp v lo) < 0 then nI 0 else (if 0 < (lg_cmp v hi) then nI 0 else nI 1))
theorem f_X8_in_b (v : Int64) (lo : Int64) (hi : Int64) : (f_X8_in v lo hi) = nI 0 ∨ (f_X8_in v lo hi) = nI 1 := by
  unfold f_X8_in
  (repeat' split) <;> first | exact Or.inl rfl | exact Or.inr rfl | exact f_X8_in_b _ _ _
abbrev rm_X8_in : Room := { frames := 0, cells := 0, slots := 0, locals := 0 }
set_option maxHeartbeats 4000000 in
set_option maxRecDepth 100000 in
theorem c_X8_in (l : Launch) (v : Int64) (lo : Int64) (hi : Int64)  : Met l yX8_in wsX8_in rm_X8_in (va_Pc [.long v, .long lo, .long hi] (fun _ => True)) (vp_Si (fun r => r = (f_X8_in v lo hi))) 0 0 (fun _ => False) := by
  refine Met.ofW (cc := cX8_in) (maxL := 6) (ret := (some .boolean)) (by decide) rfl ?_
  intro p e s m args below meth c s₁ B hml hv
  obtain ⟨rfl, -⟩ := hv
  have hx := B.exec
  have hb := B.bytes
  have hr := B.returns
  have hts := atoms_spec (ws := wsX8_in) B.pre
  have hown : s.vm.findClass RX8 = some m.cls := findClass_of_methodNamed B.named
  have hlocks := B.notSynchronized
  have hl := lv_entry ([.long v, .long lo, .long hi]) (n := 6) (Nat.le_of_ble_eq_true rfl)
  rw [lg_entry_eq]
  generalize (lg_sl ([.long v, .long lo, .long hi]) ++ List.replicate (6 - (lg_sl ([.long v, .long lo, .long hi])).length) Slot.unset).toArray = ls at hl ⊢
  have hl : lv_has ls 6 [(0, .long v), (2, .long lo), (4, .long hi)] := hl
  refine lv_lload_n hx hb dX8_in_0 rfl (lv_at hl 0 rfl) ?_
  refine lv_lload_n hx hb dX8_in_1 rfl (lv_at hl 1 rfl) ?_
  refine W.lcmp hx hb dX8_in_2 ?_
  refine mv_phi (v := (if (lg_cmp v lo) < 0 then nI 0 else (if 0 < (lg_cmp v hi) then nI 0 else nI 1))) (pcj := 18) (ls := ls) (rest' := []) ?_ (fun J_1 => ?_)
  · have hf : (f_X8_in v lo hi) = (if (lg_cmp v lo) < 0 then nI 0 else (if 0 < (lg_cmp v hi) then nI 0 else nI 1)) := by rw [f_X8_in]
    exact W.zret (v := (if (lg_cmp v lo) < 0 then nI 0 else (if 0 < (lg_cmp v hi) then nI 0 else nI 1))) (ty := .boolean) hx hb hr (by (repeat' split) <;> rfl) (fun t ht hW => ⟨(if (lg_cmp v lo) < 0 then nI 0 else (if 0 < (lg_cmp v hi) then nI 0 else nI 1)), rfl, hf.symm, ht⟩) (fun _ h => by cases h) dX8_in_18
  · refine lv_if_lt (tgt := 17) hx hb dX8_in_3 (by decide) (fun c_2 => ?_) (fun c_2 => ?_)
    · refine lv_iconst (v := nI 0) hx hb dX8_in_17 rfl ?_
      exact J_1 _ (by rw [if_pos c_2])
    · refine lv_lload_n hx hb dX8_in_6 rfl (lv_at hl 0 rfl) ?_
      refine lv_lload hx hb dX8_in_7 (lv_at hl 2 rfl) ?_
      refine W.lcmp hx hb dX8_in_9 ?_
      refine lv_if_gt (tgt := 17) hx hb dX8_in_10 (by decide) (fun c_3 => ?_) (fun c_3 => ?_)
      · refine lv_iconst (v := nI 0) hx hb dX8_in_17 rfl ?_
        exact J_1 _ (by rw [if_neg c_2, if_pos c_3])
      · refine lv_iconst (v := nI 1) hx hb dX8_in_13 rfl ?_
        refine lv_goto (tgt := 18) hx hb dX8_in_14 (by decide) ?_
        exact J_1 _ (by rw [if_neg c_2, if_neg c_3])
def f_X8_has (x0 : Int32) (x1 : Int32) : Int32 := (if ((x0 >>> (x1 &&& 31)) &&& (nI 1)) = nI 1 then nI 1 else nI 0)
theorem f_X8_has_b (x0 : Int32) (x1 : Int32) : (f_X8_has x0 x1) = nI 0 ∨ (f_X8_has x0 x1) = nI 1 := by
  unfold f_X8_has
  (repeat' split) <;> first | exact Or.inl rfl | exact Or.inr rfl | exact f_X8_in_b _ _ _
abbrev rm_X8_has : Room := { frames := 0, cells := 0, slots := 0, locals := 0 }
set_option maxHeartbeats 4000000 in
set_option maxRecDepth 100000 in
theorem c_X8_has (l : Launch) (x0 : Int32) (x1 : Int32)  : Met l yX8_has wsX8_has rm_X8_has (va_Pc [.int x0, .int x1] (fun _ => True)) (vp_Si (fun r => r = (f_X8_has x0 x1))) 0 0 (fun _ => False) := by
  refine Met.ofW (cc := cX8_has) (maxL := 2) (ret := (some .boolean)) (by decide) rfl ?_
  intro p e s m args below meth c s₁ B hml hv
  obtain ⟨rfl, -⟩ := hv
  have hx := B.exec
  have hb := B.bytes
  have hr := B.returns
  have hts := atoms_spec (ws := wsX8_has) B.pre
  have hown : s.vm.findClass RX8 = some m.cls := findClass_of_methodNamed B.named
  have hlocks := B.notSynchronized
  have hl := lv_entry ([.int x0, .int x1]) (n := 2) (Nat.le_of_ble_eq_true rfl)
  rw [lg_entry_eq]
  generalize (lg_sl ([.int x0, .int x1]) ++ List.replicate (2 - (lg_sl ([.int x0, .int x1])).length) Slot.unset).toArray = ls at hl ⊢
  have hl : lv_has ls 2 [(0, .int x0), (1, .int x1)] := hl
  refine lv_iload_n hx hb dX8_has_0 rfl (lv_at hl 0 rfl) ?_
  refine lv_iload_n hx hb dX8_has_1 rfl (lv_at hl 1 rfl) ?_
  refine lv_ishr hx hb dX8_has_2 ?_
  refine lv_iconst (v := nI 1) hx hb dX8_has_3 rfl ?_
  refine lv_iand hx hb dX8_has_4 ?_
  refine lv_iconst (v := nI 1) hx hb dX8_has_5 rfl ?_
  refine mv_phi (v := (if ((x0 >>> (x1 &&& 31)) &&& (nI 1)) = nI 1 then nI 1 else nI 0)) (pcj := 14) (ls := ls) (rest' := []) ?_ (fun J_1 => ?_)
  · have hf : (f_X8_has x0 x1) = (if ((x0 >>> (x1 &&& 31)) &&& (nI 1)) = nI 1 then nI 1 else nI 0) := by rw [f_X8_has]
    exact W.zret (v := (if ((x0 >>> (x1 &&& 31)) &&& (nI 1)) = nI 1 then nI 1 else nI 0)) (ty := .boolean) hx hb hr nb_if2 (fun t ht hW => ⟨(if ((x0 >>> (x1 &&& 31)) &&& (nI 1)) = nI 1 then nI 1 else nI 0), rfl, hf.symm, ht⟩) (fun _ h => by cases h) dX8_has_14
  · refine lv_icmp_ne (tgt := 13) hx hb dX8_has_6 (by decide) (fun c_2 => ?_) (fun c_2 => ?_)
    · refine lv_iconst (v := nI 0) hx hb dX8_has_13 rfl ?_
      exact J_1 _ (by rw [if_neg c_2])
    · refine lv_iconst (v := nI 1) hx hb dX8_has_9 rfl ?_
      refine lv_goto (tgt := 14) hx hb dX8_has_10 (by decide) ?_
      exact J_1 _ (by rw [if_pos c_2])
def L_X8_ones_4  : Nat → Nat → Int32 → Nat × Int32
  | 0, x2_4, x1_4 => (x2_4, x1_4)
  | n_4 + 1, x2_4, x1_4 => (if x2_4 = 0 then (x2_4, x1_4) else (L_X8_ones_4 n_4 (x2_4 &&& (x2_4 - 1)) (x1_4 + 1)))
def f_X8_ones (se_ : Nat) : Int32 := (L_X8_ones_4 se_ se_ (nI 0)).2
abbrev rm_X8_ones : Room := { frames := 0, cells := 0, slots := 0, locals := 0 }
set_option maxHeartbeats 4000000 in
set_option maxRecDepth 100000 in
theorem c_X8_ones (l : Launch) (se_ : Nat) (hse : se_ < 64) : Met l yX8_ones wsX8_ones rm_X8_ones (va_Pc [.int (nI se_)] (fun _ => True)) (vp_Si (fun r => r = (f_X8_ones se_))) 0 0 (fun _ => False) := by
  refine Met.ofW (cc := cX8_ones) (maxL := 3) (ret := (some .int)) (by decide) rfl ?_
  intro p e s m args below meth c s₁ B hml hv
  obtain ⟨rfl, -⟩ := hv
  have hx := B.exec
  have hb := B.bytes
  have hr := B.returns
  have hts := atoms_spec (ws := wsX8_ones) B.pre
  have hown : s.vm.findClass RX8 = some m.cls := findClass_of_methodNamed B.named
  have hlocks := B.notSynchronized
  have hl := lv_entry ([.int (nI se_)]) (n := 3) (Nat.le_of_ble_eq_true rfl)
  rw [lg_entry_eq]
  generalize (lg_sl ([.int (nI se_)]) ++ List.replicate (3 - (lg_sl ([.int (nI se_)])).length) Slot.unset).toArray = ls at hl ⊢
  have hl : lv_has ls 3 [(0, .int (nI se_))] := hl
  obtain ⟨Q, hQe⟩ : ∃ Q, Q = MQ below (vp_Si (fun r => r = (f_X8_ones se_))) ([.int (nI se_)] : List Value).toArray s 0 0 (fun _ => False) := ⟨_, rfl⟩
  show W p l e (headSpec wsX8_ones rm_X8_ones).room s m ([.int (nI se_)] : List Value).toArray below meth c s.heap [] 0 0 (MQ below (vp_Si (fun r => r = (f_X8_ones se_))) ([.int (nI se_)] : List Value).toArray s 0 0 (fun _ => False)) (F0 m 0 ls [])
  rw [← hQe]
  refine lv_iconst (v := nI 0) hx hb dX8_ones_0 rfl ?_
  refine lv_istore_n (lv' := [(1, .int (nI 0)), (0, .int (nI se_))]) hx hb dX8_ones_1 rfl hl (by decide) rfl (fun ls hl => ?_)
  refine lv_iload_n hx hb dX8_ones_2 rfl (lv_at hl 1 rfl) ?_
  refine lv_istore_n (lv' := [(2, .int (nI se_)), (1, .int (nI 0)), (0, .int (nI se_))]) hx hb dX8_ones_3 rfl hl (by decide) rfl (fun ls hl => ?_)
  obtain ⟨T_4_1, hT_4_1⟩ : ∃ z, z = (L_X8_ones_4 se_ se_ (nI 0)) := ⟨_, rfl⟩
  have hexit_4 : ∀ (ls : Array Slot), lv_has ls 3 [(2, .int (nI T_4_1.1)), (1, .int T_4_1.2)] → W p l e (headSpec wsX8_ones rm_X8_ones).room s m ([.int (nI se_)] : List Value).toArray below meth c s.heap [] 0 0 Q (F0 m 20 ls []) := by
    intro ls hl
    refine lv_iload_n hx hb dX8_ones_20 rfl (lv_at hl 1 rfl) ?_
    subst hQe
    have hf : (f_X8_ones se_) = T_4_1.2 := by subst hT_4_1; rw [f_X8_ones]
    exact W.iret (v := T_4_1.2) hx hb hr (fun t ht hW => ⟨T_4_1.2, rfl, hf.symm, ht⟩) (fun _ h => by cases h) dX8_ones_21
  have loop_4 : ∀ (n_4 : Nat) (x2_4 : Nat) (x1_4 : Int32), (x2_4 ≤ n_4) → (x2_4 < 64) → L_X8_ones_4 n_4 x2_4 x1_4 = T_4_1 → ∀ (ls : Array Slot), lv_has ls 3 [(2, .int (nI x2_4)), (1, .int x1_4)] → W p l e (headSpec wsX8_ones rm_X8_ones).room s m ([.int (nI se_)] : List Value).toArray below meth c s.heap [] 0 0 Q (F0 m 4 ls []) := by
    intro n_4
    induction n_4 with
    | zero =>
      intro x2_4 x1_4 hi0 hi1 hL_4 ls hl
      refine lv_iload_n hx hb dX8_ones_4 rfl (lv_at hl 0 rfl) ?_
      refine mv_if_eq (tgt := 20) hx hb dX8_ones_5 (by decide) (by omega) (fun c_2 => ?_) (fun c_2 => (by omega : False).elim)
      have e9 : T_4_1 = (x2_4, x1_4) := by rw [← hL_4, L_X8_ones_4]
      have hq := hexit_4
      rw [e9] at hq
      exact hq ls  (lv_sub hl [0, 1] rfl)
    | succ n_4 ih_4 =>
      intro x2_4 x1_4 hi0 hi1 hL_4 ls hl
      refine lv_iload_n hx hb dX8_ones_4 rfl (lv_at hl 0 rfl) ?_
      refine mv_if_eq (tgt := 20) hx hb dX8_ones_5 (by decide) (by omega) (fun c_1 => ?_) (fun c_1 => ?_)
      · have e9 : T_4_1 = (x2_4, x1_4) := by rw [← hL_4, L_X8_ones_4, if_pos c_1]
        have hq := hexit_4
        rw [e9] at hq
        exact hq ls  (lv_sub hl [0, 1] rfl)
      · refine lv_iinc (v := x1_4 + 1) (lv' := [(1, .int (x1_4 + 1)), (2, .int (nI x2_4))]) hx hb dX8_ones_8 hl (k := 1) rfl rfl (by decide) rfl (fun ls hl => ?_)
        refine lv_iload_n hx hb dX8_ones_11 rfl (lv_at hl 1 rfl) ?_
        refine lv_iload_n hx hb dX8_ones_12 rfl (lv_at hl 1 rfl) ?_
        refine lv_iconst (v := nI 1) hx hb dX8_ones_13 rfl ?_
        refine mv_isub hx hb dX8_ones_14 (by omega) ?_
        refine mv_iand hx hb dX8_ones_15 ?_
        refine lv_istore_n (lv' := [(2, .int (nI (x2_4 &&& (x2_4 - 1)))), (1, .int (x1_4 + 1))]) hx hb dX8_ones_16 rfl hl (by decide) rfl (fun ls hl => ?_)
        refine lv_goto (tgt := 4) hx hb dX8_ones_17 (by decide) ?_
        exact ih_4 (x2_4 &&& (x2_4 - 1)) (x1_4 + 1) (Nat.le_trans Nat.and_le_right (by omega)) (Nat.lt_of_le_of_lt Nat.and_le_left (by omega)) (by have e9 := hL_4; rw [L_X8_ones_4, if_neg c_1] at e9; exact e9) ls (lv_sub hl [0, 1] rfl)
  exact loop_4 se_ se_ (nI 0) (by omega) (by omega) hT_4_1.symm ls (lv_sub hl [0, 1] rfl)
def f_X8_isPerson (to : (Nat → Int32)) (pe : Int32) : Int32 := (f_X8_in pe.toInt64 (0 : Int64) (((nI (mN to)) - (nI 1)).toInt64))
theorem f_X8_isPerson_b (to : (Nat → Int32)) (pe : Int32) : (f_X8_isPerson to pe) = nI 0 ∨ (f_X8_isPerson to pe) = nI 1 := by
  unfold f_X8_isPerson
  (repeat' split) <;> first | exact Or.inl rfl | exact Or.inr rfl | exact f_X8_in_b _ _ _
abbrev rm_X8_isPerson : Room := { frames := 1, cells := 0, slots := 0, locals := 25 }
set_option maxHeartbeats 4000000 in
set_option maxRecDepth 100000 in
theorem c_X8_isPerson (l : Launch) (D : va_G) (cI cL cZ : ClassId) (ad : Nat → Nat) (A : Nat → Prop) (to : (Nat → Int32)) (st : (Nat → Int32)) (mt : MTx) (rd : (Nat → Int32)) (un : MUn) (kp : MKp) (rw : MKp) (se : MUn) (pe : Int32) (hm : to 0 = nI (mN to)) (hm6 : mN to ≤ 6) : Met l yX8_isPerson wsX8_isPerson rm_X8_isPerson (va_Pc [.ref (ad 0), .int pe] (sR D cI cL cZ A (mW cI cL cZ ad to st mt rd un kp rw se))) (vp_Si (fun r => r = (f_X8_isPerson to pe))) 0 0 (fun _ => False) := by
  refine Met.ofW (cc := cX8_isPerson) (maxL := 2) (ret := (some .boolean)) (by decide) rfl ?_
  intro p e s m args below meth c s₁ B hml hv
  obtain ⟨rfl, hP, hK, hD, hE⟩ := hv
  have hx := B.exec
  have hb := B.bytes
  have hr := B.returns
  have hts := atoms_spec (ws := wsX8_isPerson) B.pre
  have hown : s.vm.findClass RX8 = some m.cls := findClass_of_methodNamed B.named
  have hlocks := B.notSynchronized
  have hl := lv_entry ([.ref (ad 0), .int pe]) (n := 2) (Nat.le_of_ble_eq_true rfl)
  rw [lg_entry_eq]
  generalize (lg_sl ([.ref (ad 0), .int pe]) ++ List.replicate (2 - (lg_sl ([.ref (ad 0), .int pe])).length) Slot.unset).toArray = ls at hl ⊢
  have hl : lv_has ls 2 [(0, .ref (ad 0)), (1, .int pe)] := hl
  refine lv_iload_n hx hb dX8_isPerson_0 rfl (lv_at hl 1 rfl) ?_
  refine lv_i2l hx hb dX8_isPerson_1 rfl ?_
  refine lv_lconst (v := 0) hx hb dX8_isPerson_2 rfl ?_
  refine lv_aload_n hx hb dX8_isPerson_3 rfl (lv_at hl 0 rfl) ?_
  refine va_get (D := D) (ci := 8) (v := .ref (ad 1)) (C := RX8) (T := TX8) (N := 18) hx hb hts (by decide +kernel) hown hK hP 0 rfl rfl 0 (by decide) (hts (.fieldLink RX8 7 "SummitTimeModel" "told" "[I") (by decide +kernel)) (fun _ h9 => h9) rfl dX8_isPerson_4 ?_
  refine lv_iconst (v := nI 0) hx hb dX8_isPerson_7 rfl ?_
  refine mv_iald (f := to) hx hb hK hP 1 0 rfl rfl (by decide) (by decide) dX8_isPerson_8 ?_
  refine mv_top (y := nI (mN to)) hm ?_
  refine lv_iconst (v := nI 1) hx hb dX8_isPerson_9 rfl ?_
  refine lv_isub hx hb dX8_isPerson_10 ?_
  refine lv_i2l hx hb dX8_isPerson_11 rfl ?_
  refine vp_callSi (va_Run.run (va_runS (As := [.long pe.toInt64, .long (0 : Int64), .long (((nI (mN to)) - (nI 1)).toInt64)]) (rest := []) ⟨hx, hb, hml, hown, hts⟩ (c_X8_in l pe.toInt64 (0 : Int64) (((nI (mN to)) - (nI 1)).toInt64) ) (va_cwS 3 hts gX8_isPerson_X8_in rfl rfl rfl (by decide +kernel) ⟨Nat.le_of_ble_eq_true rfl, Nat.le_of_ble_eq_true rfl⟩) ⟨pR_fb, pR_at⟩ rfl rfl hl.1 rfl (lv_room (Nat.le_of_ble_eq_true rfl)) dX8_isPerson_12 ⟨Nat.zero_le _, Nat.zero_le _⟩)) (fun r hr => ?_)
  subst hr
  have hf : (f_X8_isPerson to pe) = (f_X8_in pe.toInt64 (0 : Int64) (((nI (mN to)) - (nI 1)).toInt64)) := by rw [f_X8_isPerson]
  exact W.zret (v := (f_X8_in pe.toInt64 (0 : Int64) (((nI (mN to)) - (nI 1)).toInt64))) (ty := .boolean) hx hb hr (nb_of (f_X8_in_b pe.toInt64 (0 : Int64) (((nI (mN to)) - (nI 1)).toInt64))) (fun t ht hW => ⟨(f_X8_in pe.toInt64 (0 : Int64) (((nI (mN to)) - (nI 1)).toInt64)), rfl, hf.symm, ht⟩) (fun _ h => by cases h) dX8_isPerson_15
theorem in_iff {v lo hi : Int64} : f_X8_in v lo hi = 0 ↔ ¬ (lo ≤ v ∧ v ≤ hi) := by
  unfold f_X8_in
  simp only [lg_cmp_lt, lg_cmp_gt]
  by_cases h1 : v < lo
  · rw [if_pos h1]
    refine ⟨fun _ h => absurd h.1 (Int64.not_le.mpr h1), fun _ => rfl⟩
  · rw [if_neg h1]
    by_cases h2 : hi < v
    · rw [if_pos h2]
      refine ⟨fun _ h => absurd h.2 (Int64.not_le.mpr h2), fun _ => rfl⟩
    · rw [if_neg h2]
      refine ⟨fun h => absurd h (by decide), fun h => absurd ⟨Int64.not_lt.mp h1, Int64.not_lt.mp h2⟩ h⟩
theorem nn_int {x : Int32} (h : 0 ≤ x.toInt) : x = nI x.toNatClampNeg := nI_nn (by rw [Int32.lt_iff_toInt_lt, Int32.toInt_zero]; omega)
theorem in_and {v : Int32} {h : Int64} (c : ¬ f_X8_in v.toInt64 (0 : Int64) h = 0) : 0 ≤ v.toInt ∧ v.toInt ≤ h.toInt := by
  have c := Decidable.not_not.mp (fun q => c (in_iff.mpr q))
  rw [Int64.le_iff_toInt_le, Int64.le_iff_toInt_le, Int32.toInt_toInt64, Int64.toInt_zero] at c
  exact c
theorem in_nat {v : Int32} {h : Int64} (c : ¬ f_X8_in v.toInt64 (0 : Int64) h = 0) : v = nI v.toNatClampNeg := nn_int (in_and c).1
theorem cl_int (x : Int32) : (x.toNatClampNeg : Int) = max x.toInt 0 := by
  show ((x.toInt.toNat : Nat) : Int) = max x.toInt 0
  omega
theorem in_lt {v : Int32} {h : Int64} {N : Nat} (hN : h.toInt < (N : Int)) (c : ¬ f_X8_in v.toInt64 (0 : Int64) h = 0) : v.toNatClampNeg < N := by
  have h1 := in_and c
  have h2 := cl_int v
  omega
theorem isP_and {to : Nat → Int32} {pe : Int32} (hm6 : mN to ≤ 6) (c : ¬ f_X8_isPerson to pe = 0) : 0 ≤ pe.toInt ∧ pe.toInt < mN to := by
  have h1 := in_and c
  rw [Int32.toInt_toInt64] at h1
  have h3 : (nI (mN to) - nI 1).toInt = (mN to : Int) - (1 : Nat) := pk_sub_toInt (by omega) (by decide)
  omega
theorem isP_nat {to : Nat → Int32} {pe : Int32} (c : ¬ f_X8_isPerson to pe = 0) : pe = nI pe.toNatClampNeg := in_nat c
theorem isP_lt {to : Nat → Int32} {pe : Int32} (hm6 : mN to ≤ 6) (c : ¬ f_X8_isPerson to pe = 0) : pe.toNatClampNeg < mN to := by
  have h1 := isP_and hm6 c
  have h2 := cl_int pe
  omega
theorem cl_lt (x : Int32) : x.toNatClampNeg < 2147483648 := by
  have h1 := cl_int x
  have h2 := fb_rng x
  omega
theorem cst_nn {p q : Prop} [Decidable p] [Decidable q] {z : Int32} (c : (if p then nI 1 else (if q then nI 1 else z)) = 0) : ¬ q := by
  intro h
  by_cases hp : p
  · rw [if_pos hp] at c
    exact absurd c (by decide)
  · rw [if_neg hp, if_pos h] at c
    exact absurd c (by decide)
theorem so_upd {st : Nat → Int32} {k : Nat} {v : Int32} (h : ∀ j, j < 60 → (st j).toNatClampNeg < 6) (hk : 60 ≤ k) : ∀ j, j < 60 → (upd st k v j).toNatClampNeg < 6 := fun j hj => by
  rw [pk_un (by omega)]
  exact h j hj
def f_X8_walkOf (to : (Nat → Int32)) (pe : Nat) : Int32 := (if (to (1 + pe)) = nI 1 then (if (to (7 + pe)) ≤ nI 1 then (to (7 + pe)) else ((to (7 + pe)) - (nI 1))) else (to (7 + pe)))
abbrev rm_X8_walkOf : Room := { frames := 0, cells := 0, slots := 0, locals := 0 }
set_option maxHeartbeats 4000000 in
set_option maxRecDepth 100000 in
theorem c_X8_walkOf (l : Launch) (D : va_G) (cI cL cZ : ClassId) (ad : Nat → Nat) (A : Nat → Prop) (to : (Nat → Int32)) (st : (Nat → Int32)) (mt : MTx) (rd : (Nat → Int32)) (un : MUn) (kp : MKp) (rw : MKp) (se : MUn) (pe : Nat) (hpe : pe < 6) : Met l yX8_walkOf wsX8_walkOf rm_X8_walkOf (va_Pc [.ref (ad 0), .int (nI pe)] (sR D cI cL cZ A (mW cI cL cZ ad to st mt rd un kp rw se))) (vp_Si (fun r => r = (f_X8_walkOf to pe))) 0 0 (fun _ => False) := by
  refine Met.ofW (cc := cX8_walkOf) (maxL := 3) (ret := (some .int)) (by decide) rfl ?_
  intro p e s m args below meth c s₁ B hml hv
  obtain ⟨rfl, hP, hK, hD, hE⟩ := hv
  have hx := B.exec
  have hb := B.bytes
  have hr := B.returns
  have hts := atoms_spec (ws := wsX8_walkOf) B.pre
  have hown : s.vm.findClass RX8 = some m.cls := findClass_of_methodNamed B.named
  have hlocks := B.notSynchronized
  have hl := lv_entry ([.ref (ad 0), .int (nI pe)]) (n := 3) (Nat.le_of_ble_eq_true rfl)
  rw [lg_entry_eq]
  generalize (lg_sl ([.ref (ad 0), .int (nI pe)]) ++ List.replicate (3 - (lg_sl ([.ref (ad 0), .int (nI pe)])).length) Slot.unset).toArray = ls at hl ⊢
  have hl : lv_has ls 3 [(0, .ref (ad 0)), (1, .int (nI pe))] := hl
  refine lv_aload_n hx hb dX8_walkOf_0 rfl (lv_at hl 0 rfl) ?_
  refine va_get (D := D) (ci := 8) (v := .ref (ad 1)) (C := RX8) (T := TX8) (N := 18) hx hb hts (by decide +kernel) hown hK hP 0 rfl rfl 0 (by decide) (hts (.fieldLink RX8 7 "SummitTimeModel" "told" "[I") (by decide +kernel)) (fun _ h9 => h9) rfl dX8_walkOf_1 ?_
  refine lv_bipush (v := nI 7) hx hb dX8_walkOf_4 rfl ?_
  refine lv_iload_n hx hb dX8_walkOf_6 rfl (lv_at hl 1 rfl) ?_
  refine mv_iadd hx hb dX8_walkOf_7 ?_
  refine mv_iald (f := to) hx hb hK hP 1 0 rfl rfl (by omega) (by decide) dX8_walkOf_8 ?_
  refine lv_istore_n (lv' := [(2, .int (to (7 + pe))), (0, .ref (ad 0)), (1, .int (nI pe))]) hx hb dX8_walkOf_9 rfl hl (by decide) rfl (fun ls hl => ?_)
  refine lv_aload_n hx hb dX8_walkOf_10 rfl (lv_at hl 1 rfl) ?_
  refine va_get (D := D) (ci := 8) (v := .ref (ad 1)) (C := RX8) (T := TX8) (N := 18) hx hb hts (by decide +kernel) hown hK hP 0 rfl rfl 0 (by decide) (hts (.fieldLink RX8 7 "SummitTimeModel" "told" "[I") (by decide +kernel)) (fun _ h9 => h9) rfl dX8_walkOf_11 ?_
  refine lv_iconst (v := nI 1) hx hb dX8_walkOf_14 rfl ?_
  refine lv_iload_n hx hb dX8_walkOf_15 rfl (lv_at hl 2 rfl) ?_
  refine mv_iadd hx hb dX8_walkOf_16 ?_
  refine mv_iald (f := to) hx hb hK hP 1 0 rfl rfl (by omega) (by decide) dX8_walkOf_17 ?_
  refine lv_iconst (v := nI 1) hx hb dX8_walkOf_18 rfl ?_
  refine mv_phi (v := (if (to (1 + pe)) = nI 1 then (if (to (7 + pe)) ≤ nI 1 then (to (7 + pe)) else ((to (7 + pe)) - (nI 1))) else (to (7 + pe)))) (pcj := 34) (ls := ls) (rest' := []) ?_ (fun J_1 => ?_)
  · have hf : (f_X8_walkOf to pe) = (if (to (1 + pe)) = nI 1 then (if (to (7 + pe)) ≤ nI 1 then (to (7 + pe)) else ((to (7 + pe)) - (nI 1))) else (to (7 + pe))) := by rw [f_X8_walkOf]
    exact W.iret (v := (if (to (1 + pe)) = nI 1 then (if (to (7 + pe)) ≤ nI 1 then (to (7 + pe)) else ((to (7 + pe)) - (nI 1))) else (to (7 + pe)))) hx hb hr (fun t ht hW => ⟨(if (to (1 + pe)) = nI 1 then (if (to (7 + pe)) ≤ nI 1 then (to (7 + pe)) else ((to (7 + pe)) - (nI 1))) else (to (7 + pe))), rfl, hf.symm, ht⟩) (fun _ h => by cases h) dX8_walkOf_34
  · refine lv_icmp_ne (tgt := 33) hx hb dX8_walkOf_19 (by decide) (fun c_2 => ?_) (fun c_2 => ?_)
    · refine lv_iload_n hx hb dX8_walkOf_33 rfl (lv_at hl 0 rfl) ?_
      exact J_1 _ (by rw [if_neg c_2])
    · refine lv_iload_n hx hb dX8_walkOf_22 rfl (lv_at hl 0 rfl) ?_
      refine lv_iconst (v := nI 1) hx hb dX8_walkOf_23 rfl ?_
      refine lv_icmp_le (tgt := 33) hx hb dX8_walkOf_24 (by decide) (fun c_3 => ?_) (fun c_3 => ?_)
      · refine lv_iload_n hx hb dX8_walkOf_33 rfl (lv_at hl 0 rfl) ?_
        exact J_1 _ (by rw [if_pos c_2, if_pos c_3])
      · refine lv_iload_n hx hb dX8_walkOf_27 rfl (lv_at hl 0 rfl) ?_
        refine lv_iconst (v := nI 1) hx hb dX8_walkOf_28 rfl ?_
        refine lv_isub hx hb dX8_walkOf_29 ?_
        refine lv_goto (tgt := 34) hx hb dX8_walkOf_30 (by decide) ?_
        exact J_1 _ (by rw [if_pos c_2, if_neg c_3])
def f_X8_costOf (to : (Nat → Int32)) (pe : Nat) : Int32 := (if (to (1 + pe)) = nI 3 then ((nI 2) * (to (19 + pe))) else (to (19 + pe)))
abbrev rm_X8_costOf : Room := { frames := 0, cells := 0, slots := 0, locals := 0 }
set_option maxHeartbeats 4000000 in
set_option maxRecDepth 100000 in
theorem c_X8_costOf (l : Launch) (D : va_G) (cI cL cZ : ClassId) (ad : Nat → Nat) (A : Nat → Prop) (to : (Nat → Int32)) (st : (Nat → Int32)) (mt : MTx) (rd : (Nat → Int32)) (un : MUn) (kp : MKp) (rw : MKp) (se : MUn) (pe : Nat) (hpe : pe < 6) : Met l yX8_costOf wsX8_costOf rm_X8_costOf (va_Pc [.ref (ad 0), .int (nI pe)] (sR D cI cL cZ A (mW cI cL cZ ad to st mt rd un kp rw se))) (vp_Si (fun r => r = (f_X8_costOf to pe))) 0 0 (fun _ => False) := by
  refine Met.ofW (cc := cX8_costOf) (maxL := 2) (ret := (some .int)) (by decide) rfl ?_
  intro p e s m args below meth c s₁ B hml hv
  obtain ⟨rfl, hP, hK, hD, hE⟩ := hv
  have hx := B.exec
  have hb := B.bytes
  have hr := B.returns
  have hts := atoms_spec (ws := wsX8_costOf) B.pre
  have hown : s.vm.findClass RX8 = some m.cls := findClass_of_methodNamed B.named
  have hlocks := B.notSynchronized
  have hl := lv_entry ([.ref (ad 0), .int (nI pe)]) (n := 2) (Nat.le_of_ble_eq_true rfl)
  rw [lg_entry_eq]
  generalize (lg_sl ([.ref (ad 0), .int (nI pe)]) ++ List.replicate (2 - (lg_sl ([.ref (ad 0), .int (nI pe)])).length) Slot.unset).toArray = ls at hl ⊢
  have hl : lv_has ls 2 [(0, .ref (ad 0)), (1, .int (nI pe))] := hl
  refine lv_aload_n hx hb dX8_costOf_0 rfl (lv_at hl 0 rfl) ?_
  refine va_get (D := D) (ci := 8) (v := .ref (ad 1)) (C := RX8) (T := TX8) (N := 18) hx hb hts (by decide +kernel) hown hK hP 0 rfl rfl 0 (by decide) (hts (.fieldLink RX8 7 "SummitTimeModel" "told" "[I") (by decide +kernel)) (fun _ h9 => h9) rfl dX8_costOf_1 ?_
  refine lv_iconst (v := nI 1) hx hb dX8_costOf_4 rfl ?_
  refine lv_iload_n hx hb dX8_costOf_5 rfl (lv_at hl 1 rfl) ?_
  refine mv_iadd hx hb dX8_costOf_6 ?_
  refine mv_iald (f := to) hx hb hK hP 1 0 rfl rfl (by omega) (by decide) dX8_costOf_7 ?_
  refine lv_iconst (v := nI 3) hx hb dX8_costOf_8 rfl ?_
  refine mv_phi (v := (if (to (1 + pe)) = nI 3 then ((nI 2) * (to (19 + pe))) else (to (19 + pe)))) (pcj := 35) (ls := ls) (rest' := []) ?_ (fun J_1 => ?_)
  · have hf : (f_X8_costOf to pe) = (if (to (1 + pe)) = nI 3 then ((nI 2) * (to (19 + pe))) else (to (19 + pe))) := by rw [f_X8_costOf]
    exact W.iret (v := (if (to (1 + pe)) = nI 3 then ((nI 2) * (to (19 + pe))) else (to (19 + pe)))) hx hb hr (fun t ht hW => ⟨(if (to (1 + pe)) = nI 3 then ((nI 2) * (to (19 + pe))) else (to (19 + pe))), rfl, hf.symm, ht⟩) (fun _ h => by cases h) dX8_costOf_35
  · refine lv_icmp_ne (tgt := 26) hx hb dX8_costOf_9 (by decide) (fun c_2 => ?_) (fun c_2 => ?_)
    · refine lv_aload_n hx hb dX8_costOf_26 rfl (lv_at hl 0 rfl) ?_
      refine va_get (D := D) (ci := 8) (v := .ref (ad 1)) (C := RX8) (T := TX8) (N := 18) hx hb hts (by decide +kernel) hown hK hP 0 rfl rfl 0 (by decide) (hts (.fieldLink RX8 7 "SummitTimeModel" "told" "[I") (by decide +kernel)) (fun _ h9 => h9) rfl dX8_costOf_27 ?_
      refine lv_bipush (v := nI 19) hx hb dX8_costOf_30 rfl ?_
      refine lv_iload_n hx hb dX8_costOf_32 rfl (lv_at hl 1 rfl) ?_
      refine mv_iadd hx hb dX8_costOf_33 ?_
      refine mv_iald (f := to) hx hb hK hP 1 0 rfl rfl (by omega) (by decide) dX8_costOf_34 ?_
      exact J_1 _ (by rw [if_neg c_2])
    · refine lv_iconst (v := nI 2) hx hb dX8_costOf_12 rfl ?_
      refine lv_aload_n hx hb dX8_costOf_13 rfl (lv_at hl 0 rfl) ?_
      refine va_get (D := D) (ci := 8) (v := .ref (ad 1)) (C := RX8) (T := TX8) (N := 18) hx hb hts (by decide +kernel) hown hK hP 0 rfl rfl 0 (by decide) (hts (.fieldLink RX8 7 "SummitTimeModel" "told" "[I") (by decide +kernel)) (fun _ h9 => h9) rfl dX8_costOf_14 ?_
      refine lv_bipush (v := nI 19) hx hb dX8_costOf_17 rfl ?_
      refine lv_iload_n hx hb dX8_costOf_19 rfl (lv_at hl 1 rfl) ?_
      refine mv_iadd hx hb dX8_costOf_20 ?_
      refine mv_iald (f := to) hx hb hK hP 1 0 rfl rfl (by omega) (by decide) dX8_costOf_21 ?_
      refine lv_imul hx hb dX8_costOf_22 ?_
      refine lv_goto (tgt := 35) hx hb dX8_costOf_23 (by decide) ?_
      exact J_1 _ (by rw [if_pos c_2])
def f_X8_thereBy (to : (Nat → Int32)) (st : (Nat → Int32)) (pe : Nat) (sta : Int32) : Int32 := ((sta + (f_X8_walkOf to pe)) + (st 72))
abbrev rm_X8_thereBy : Room := { frames := 1, cells := 0, slots := 0, locals := 22 }
set_option maxHeartbeats 4000000 in
set_option maxRecDepth 100000 in
theorem c_X8_thereBy (l : Launch) (D : va_G) (cI cL cZ : ClassId) (ad : Nat → Nat) (A : Nat → Prop) (to : (Nat → Int32)) (st : (Nat → Int32)) (mt : MTx) (rd : (Nat → Int32)) (un : MUn) (kp : MKp) (rw : MKp) (se : MUn) (pe : Nat) (sta : Int32) (hpe : pe < 6) : Met l yX8_thereBy wsX8_thereBy rm_X8_thereBy (va_Pc [.ref (ad 0), .int (nI pe), .int sta] (sR D cI cL cZ A (mW cI cL cZ ad to st mt rd un kp rw se))) (vp_Si (fun r => r = (f_X8_thereBy to st pe sta))) 0 0 (fun _ => False) := by
  refine Met.ofW (cc := cX8_thereBy) (maxL := 3) (ret := (some .int)) (by decide) rfl ?_
  intro p e s m args below meth c s₁ B hml hv
  obtain ⟨rfl, hP, hK, hD, hE⟩ := hv
  have hx := B.exec
  have hb := B.bytes
  have hr := B.returns
  have hts := atoms_spec (ws := wsX8_thereBy) B.pre
  have hown : s.vm.findClass RX8 = some m.cls := findClass_of_methodNamed B.named
  have hlocks := B.notSynchronized
  have hl := lv_entry ([.ref (ad 0), .int (nI pe), .int sta]) (n := 3) (Nat.le_of_ble_eq_true rfl)
  rw [lg_entry_eq]
  generalize (lg_sl ([.ref (ad 0), .int (nI pe), .int sta]) ++ List.replicate (3 - (lg_sl ([.ref (ad 0), .int (nI pe), .int sta])).length) Slot.unset).toArray = ls at hl ⊢
  have hl : lv_has ls 3 [(0, .ref (ad 0)), (1, .int (nI pe)), (2, .int sta)] := hl
  refine lv_iload_n hx hb dX8_thereBy_0 rfl (lv_at hl 2 rfl) ?_
  refine lv_aload_n hx hb dX8_thereBy_1 rfl (lv_at hl 0 rfl) ?_
  refine lv_iload_n hx hb dX8_thereBy_2 rfl (lv_at hl 1 rfl) ?_
  refine vp_callSi (va_Run.run (va_runV (As := [.int (nI pe)]) (rest := [.int sta]) ⟨hx, hb, hml, hown, hts⟩ (c_X8_walkOf l D cI cL cZ ad A to st mt rd un kp rw se pe (by first | assumption | omega)) (cwV 1 hts gX8_thereBy_X8_walkOf rfl rfl rfl (by decide +kernel) ⟨Nat.le_of_ble_eq_true rfl, Nat.le_of_ble_eq_true rfl⟩) ⟨sR_fb, va_recv hK hP (ci := 8) (q0 := 0) rfl rfl, sR_at hP hK hD hE⟩ rfl rfl hl.1 rfl (lv_room (Nat.le_of_ble_eq_true rfl)) dX8_thereBy_3 ⟨Nat.zero_le _, Nat.zero_le _⟩)) (fun r hr => ?_)
  subst hr
  refine lv_iadd hx hb dX8_thereBy_6 ?_
  refine lv_aload_n hx hb dX8_thereBy_7 rfl (lv_at hl 0 rfl) ?_
  refine va_get (D := D) (ci := 8) (v := .ref (ad 2)) (C := RX8) (T := TX8) (N := 18) hx hb hts (by decide +kernel) hown hK hP 0 rfl rfl 1 (by decide) (hts (.fieldLink RX8 13 "SummitTimeModel" "st" "[I") (by decide +kernel)) (fun _ h9 => h9) rfl dX8_thereBy_8 ?_
  refine lv_bipush (v := nI 72) hx hb dX8_thereBy_11 rfl ?_
  refine mv_iald (f := st) hx hb hK hP 2 0 rfl rfl (by decide) (by decide) dX8_thereBy_13 ?_
  refine lv_iadd hx hb dX8_thereBy_14 ?_
  have hf : (f_X8_thereBy to st pe sta) = ((sta + (f_X8_walkOf to pe)) + (st 72)) := by rw [f_X8_thereBy]
  exact W.iret (v := ((sta + (f_X8_walkOf to pe)) + (st 72))) hx hb hr (fun t ht hW => ⟨((sta + (f_X8_walkOf to pe)) + (st 72)), rfl, hf.symm, ht⟩) (fun _ h => by cases h) dX8_thereBy_15
def f_X8_standsIn (to : (Nat → Int32)) (st : (Nat → Int32)) (pe : Nat) (sec : Int32) : Int32 := (if 0 ≤ (st (60 + pe)) then (f_X8_in sec.toInt64 ((f_X8_thereBy to st pe (st (60 + pe))).toInt64) ((((f_X8_thereBy to st pe (st (60 + pe))) + (to (13 + pe))) - (nI 1)).toInt64)) else nI 0)
theorem f_X8_standsIn_b (to : (Nat → Int32)) (st : (Nat → Int32)) (pe : Nat) (sec : Int32) : (f_X8_standsIn to st pe sec) = nI 0 ∨ (f_X8_standsIn to st pe sec) = nI 1 := by
  unfold f_X8_standsIn
  (repeat' split) <;> first | exact Or.inl rfl | exact Or.inr rfl | exact f_X8_in_b _ _ _
abbrev rm_X8_standsIn : Room := { frames := 2, cells := 0, slots := 0, locals := 44 }
set_option maxHeartbeats 4000000 in
set_option maxRecDepth 100000 in
theorem c_X8_standsIn (l : Launch) (D : va_G) (cI cL cZ : ClassId) (ad : Nat → Nat) (A : Nat → Prop) (to : (Nat → Int32)) (st : (Nat → Int32)) (mt : MTx) (rd : (Nat → Int32)) (un : MUn) (kp : MKp) (rw : MKp) (se : MUn) (pe : Nat) (sec : Int32) (hpe : pe < 6) : Met l yX8_standsIn wsX8_standsIn rm_X8_standsIn (va_Pc [.ref (ad 0), .int (nI pe), .int sec] (sR D cI cL cZ A (mW cI cL cZ ad to st mt rd un kp rw se))) (vp_Si (fun r => r = (f_X8_standsIn to st pe sec))) 0 0 (fun _ => False) := by
  refine Met.ofW (cc := cX8_standsIn) (maxL := 4) (ret := (some .boolean)) (by decide) rfl ?_
  intro p e s m args below meth c s₁ B hml hv
  obtain ⟨rfl, hP, hK, hD, hE⟩ := hv
  have hx := B.exec
  have hb := B.bytes
  have hr := B.returns
  have hts := atoms_spec (ws := wsX8_standsIn) B.pre
  have hown : s.vm.findClass RX8 = some m.cls := findClass_of_methodNamed B.named
  have hlocks := B.notSynchronized
  have hl := lv_entry ([.ref (ad 0), .int (nI pe), .int sec]) (n := 4) (Nat.le_of_ble_eq_true rfl)
  rw [lg_entry_eq]
  generalize (lg_sl ([.ref (ad 0), .int (nI pe), .int sec]) ++ List.replicate (4 - (lg_sl ([.ref (ad 0), .int (nI pe), .int sec])).length) Slot.unset).toArray = ls at hl ⊢
  have hl : lv_has ls 4 [(0, .ref (ad 0)), (1, .int (nI pe)), (2, .int sec)] := hl
  refine lv_aload_n hx hb dX8_standsIn_0 rfl (lv_at hl 0 rfl) ?_
  refine va_get (D := D) (ci := 8) (v := .ref (ad 2)) (C := RX8) (T := TX8) (N := 18) hx hb hts (by decide +kernel) hown hK hP 0 rfl rfl 1 (by decide) (hts (.fieldLink RX8 13 "SummitTimeModel" "st" "[I") (by decide +kernel)) (fun _ h9 => h9) rfl dX8_standsIn_1 ?_
  refine lv_bipush (v := nI 60) hx hb dX8_standsIn_4 rfl ?_
  refine lv_iload_n hx hb dX8_standsIn_6 rfl (lv_at hl 1 rfl) ?_
  refine mv_iadd hx hb dX8_standsIn_7 ?_
  refine mv_iald (f := st) hx hb hK hP 2 0 rfl rfl (by omega) (by decide) dX8_standsIn_8 ?_
  refine lv_if_ge (tgt := 14) hx hb dX8_standsIn_9 (by decide) (fun c_1 => ?_) (fun c_1 => ?_)
  · refine lv_aload_n hx hb dX8_standsIn_14 rfl (lv_at hl 0 rfl) ?_
    refine lv_iload_n hx hb dX8_standsIn_15 rfl (lv_at hl 1 rfl) ?_
    refine lv_aload_n hx hb dX8_standsIn_16 rfl (lv_at hl 0 rfl) ?_
    refine va_get (D := D) (ci := 8) (v := .ref (ad 2)) (C := RX8) (T := TX8) (N := 18) hx hb hts (by decide +kernel) hown hK hP 0 rfl rfl 1 (by decide) (hts (.fieldLink RX8 13 "SummitTimeModel" "st" "[I") (by decide +kernel)) (fun _ h9 => h9) rfl dX8_standsIn_17 ?_
    refine lv_bipush (v := nI 60) hx hb dX8_standsIn_20 rfl ?_
    refine lv_iload_n hx hb dX8_standsIn_22 rfl (lv_at hl 1 rfl) ?_
    refine mv_iadd hx hb dX8_standsIn_23 ?_
    refine mv_iald (f := st) hx hb hK hP 2 0 rfl rfl (by omega) (by decide) dX8_standsIn_24 ?_
    refine vp_callSi (va_Run.run (va_runV (As := [.int (nI pe), .int (st (60 + pe))]) (rest := []) ⟨hx, hb, hml, hown, hts⟩ (c_X8_thereBy l D cI cL cZ ad A to st mt rd un kp rw se pe (st (60 + pe)) (by first | assumption | omega)) (cwV 2 hts gX8_standsIn_X8_thereBy rfl rfl rfl (by decide +kernel) ⟨Nat.le_of_ble_eq_true rfl, Nat.le_of_ble_eq_true rfl⟩) ⟨sR_fb, va_recv hK hP (ci := 8) (q0 := 0) rfl rfl, sR_at hP hK hD hE⟩ rfl rfl hl.1 rfl (lv_room (Nat.le_of_ble_eq_true rfl)) dX8_standsIn_25 ⟨Nat.zero_le _, Nat.zero_le _⟩)) (fun r hr => ?_)
    subst hr
    refine lv_istore_n (lv' := [(3, .int (f_X8_thereBy to st pe (st (60 + pe)))), (0, .ref (ad 0)), (1, .int (nI pe)), (2, .int sec)]) hx hb dX8_standsIn_28 rfl hl (by decide) rfl (fun ls hl => ?_)
    refine lv_iload_n hx hb dX8_standsIn_29 rfl (lv_at hl 3 rfl) ?_
    refine lv_i2l hx hb dX8_standsIn_30 rfl ?_
    refine lv_iload_n hx hb dX8_standsIn_31 rfl (lv_at hl 0 rfl) ?_
    refine lv_i2l hx hb dX8_standsIn_32 rfl ?_
    refine lv_iload_n hx hb dX8_standsIn_33 rfl (lv_at hl 0 rfl) ?_
    refine lv_aload_n hx hb dX8_standsIn_34 rfl (lv_at hl 1 rfl) ?_
    refine va_get (D := D) (ci := 8) (v := .ref (ad 1)) (C := RX8) (T := TX8) (N := 18) hx hb hts (by decide +kernel) hown hK hP 0 rfl rfl 0 (by decide) (hts (.fieldLink RX8 7 "SummitTimeModel" "told" "[I") (by decide +kernel)) (fun _ h9 => h9) rfl dX8_standsIn_35 ?_
    refine lv_bipush (v := nI 13) hx hb dX8_standsIn_38 rfl ?_
    refine lv_iload_n hx hb dX8_standsIn_40 rfl (lv_at hl 2 rfl) ?_
    refine mv_iadd hx hb dX8_standsIn_41 ?_
    refine mv_iald (f := to) hx hb hK hP 1 0 rfl rfl (by omega) (by decide) dX8_standsIn_42 ?_
    refine lv_iadd hx hb dX8_standsIn_43 ?_
    refine lv_iconst (v := nI 1) hx hb dX8_standsIn_44 rfl ?_
    refine lv_isub hx hb dX8_standsIn_45 ?_
    refine lv_i2l hx hb dX8_standsIn_46 rfl ?_
    refine vp_callSi (va_Run.run (va_runS (As := [.long sec.toInt64, .long ((f_X8_thereBy to st pe (st (60 + pe))).toInt64), .long ((((f_X8_thereBy to st pe (st (60 + pe))) + (to (13 + pe))) - (nI 1)).toInt64)]) (rest := []) ⟨hx, hb, hml, hown, hts⟩ (c_X8_in l sec.toInt64 ((f_X8_thereBy to st pe (st (60 + pe))).toInt64) ((((f_X8_thereBy to st pe (st (60 + pe))) + (to (13 + pe))) - (nI 1)).toInt64) ) (va_cwS 3 hts gX8_standsIn_X8_in rfl rfl rfl (by decide +kernel) ⟨Nat.le_of_ble_eq_true rfl, Nat.le_of_ble_eq_true rfl⟩) ⟨pR_fb, pR_at⟩ rfl rfl hl.1 rfl (lv_room (Nat.le_of_ble_eq_true rfl)) dX8_standsIn_47 ⟨Nat.zero_le _, Nat.zero_le _⟩)) (fun r hr => ?_)
    subst hr
    have hf : (f_X8_standsIn to st pe sec) = (f_X8_in sec.toInt64 ((f_X8_thereBy to st pe (st (60 + pe))).toInt64) ((((f_X8_thereBy to st pe (st (60 + pe))) + (to (13 + pe))) - (nI 1)).toInt64)) := by rw [f_X8_standsIn, if_pos c_1]
    exact W.zret (v := (f_X8_in sec.toInt64 ((f_X8_thereBy to st pe (st (60 + pe))).toInt64) ((((f_X8_thereBy to st pe (st (60 + pe))) + (to (13 + pe))) - (nI 1)).toInt64))) (ty := .boolean) hx hb hr (nb_of (f_X8_in_b sec.toInt64 ((f_X8_thereBy to st pe (st (60 + pe))).toInt64) ((((f_X8_thereBy to st pe (st (60 + pe))) + (to (13 + pe))) - (nI 1)).toInt64))) (fun t ht hW => ⟨(f_X8_in sec.toInt64 ((f_X8_thereBy to st pe (st (60 + pe))).toInt64) ((((f_X8_thereBy to st pe (st (60 + pe))) + (to (13 + pe))) - (nI 1)).toInt64)), rfl, hf.symm, ht⟩) (fun _ h => by cases h) dX8_standsIn_50
  · refine lv_iconst (v := nI 0) hx hb dX8_standsIn_12 rfl ?_
    have hf : (f_X8_standsIn to st pe sec) = nI 0 := by rw [f_X8_standsIn, if_neg c_1]
    exact W.zret (v := nI 0) (ty := .boolean) hx hb hr rfl (fun t ht hW => ⟨nI 0, rfl, hf.symm, ht⟩) (fun _ h => by cases h) dX8_standsIn_13
def f_X8_costs (to : (Nat → Int32)) (st : (Nat → Int32)) (pe : Nat) (sec : Nat) : Int32 := (if (if (to (85 + sec)) = nI 1 then nI 1 else (if (st sec) < 0 then nI 1 else (if (st sec) = nI pe then nI 1 else (if (to (1 + pe)) = nI 2 then (if sec < 50 then nI 0 else nI 1) else nI 0)))) = 0 then (f_X8_costOf to ((st sec).toNatClampNeg)) else nI 0)
abbrev rm_X8_costs : Room := { frames := 1, cells := 0, slots := 0, locals := 21 }
set_option maxHeartbeats 4000000 in
set_option maxRecDepth 100000 in
theorem c_X8_costs (l : Launch) (D : va_G) (cI cL cZ : ClassId) (ad : Nat → Nat) (A : Nat → Prop) (to : (Nat → Int32)) (st : (Nat → Int32)) (mt : MTx) (rd : (Nat → Int32)) (un : MUn) (kp : MKp) (rw : MKp) (se : MUn) (pe : Nat) (sec : Nat) (hpe : pe < 6) (hsec : sec < 60) (hso : ∀ j, j < 60 → (st j).toNatClampNeg < 6) : Met l yX8_costs wsX8_costs rm_X8_costs (va_Pc [.ref (ad 0), .int (nI pe), .int (nI sec)] (sR D cI cL cZ A (mW cI cL cZ ad to st mt rd un kp rw se))) (vp_Si (fun r => r = (f_X8_costs to st pe sec))) 0 0 (fun _ => False) := by
  refine Met.ofW (cc := cX8_costs) (maxL := 5) (ret := (some .int)) (by decide) rfl ?_
  intro p e s m args below meth c s₁ B hml hv
  obtain ⟨rfl, hP, hK, hD, hE⟩ := hv
  have hx := B.exec
  have hb := B.bytes
  have hr := B.returns
  have hts := atoms_spec (ws := wsX8_costs) B.pre
  have hown : s.vm.findClass RX8 = some m.cls := findClass_of_methodNamed B.named
  have hlocks := B.notSynchronized
  have hl := lv_entry ([.ref (ad 0), .int (nI pe), .int (nI sec)]) (n := 5) (Nat.le_of_ble_eq_true rfl)
  rw [lg_entry_eq]
  generalize (lg_sl ([.ref (ad 0), .int (nI pe), .int (nI sec)]) ++ List.replicate (5 - (lg_sl ([.ref (ad 0), .int (nI pe), .int (nI sec)])).length) Slot.unset).toArray = ls at hl ⊢
  have hl : lv_has ls 5 [(0, .ref (ad 0)), (1, .int (nI pe)), (2, .int (nI sec))] := hl
  refine lv_aload_n hx hb dX8_costs_0 rfl (lv_at hl 0 rfl) ?_
  refine va_get (D := D) (ci := 8) (v := .ref (ad 2)) (C := RX8) (T := TX8) (N := 18) hx hb hts (by decide +kernel) hown hK hP 0 rfl rfl 1 (by decide) (hts (.fieldLink RX8 13 "SummitTimeModel" "st" "[I") (by decide +kernel)) (fun _ h9 => h9) rfl dX8_costs_1 ?_
  refine lv_iload_n hx hb dX8_costs_4 rfl (lv_at hl 2 rfl) ?_
  refine mv_iald (f := st) hx hb hK hP 2 0 rfl rfl (by omega) (by decide) dX8_costs_5 ?_
  refine lv_istore_n (lv' := [(3, .int (st sec)), (0, .ref (ad 0)), (1, .int (nI pe)), (2, .int (nI sec))]) hx hb dX8_costs_6 rfl hl (by decide) rfl (fun ls hl => ?_)
  refine lv_aload_n hx hb dX8_costs_7 rfl (lv_at hl 1 rfl) ?_
  refine va_get (D := D) (ci := 8) (v := .ref (ad 1)) (C := RX8) (T := TX8) (N := 18) hx hb hts (by decide +kernel) hown hK hP 0 rfl rfl 0 (by decide) (hts (.fieldLink RX8 7 "SummitTimeModel" "told" "[I") (by decide +kernel)) (fun _ h9 => h9) rfl dX8_costs_8 ?_
  refine lv_bipush (v := nI 85) hx hb dX8_costs_11 rfl ?_
  refine lv_iload_n hx hb dX8_costs_13 rfl (lv_at hl 3 rfl) ?_
  refine mv_iadd hx hb dX8_costs_14 ?_
  refine mv_iald (f := to) hx hb hK hP 1 0 rfl rfl (by omega) (by decide) dX8_costs_15 ?_
  refine lv_iconst (v := nI 1) hx hb dX8_costs_16 rfl ?_
  refine mv_phi (v := (if (to (85 + sec)) = nI 1 then nI 1 else (if (st sec) < 0 then nI 1 else (if (st sec) = nI pe then nI 1 else (if (to (1 + pe)) = nI 2 then (if sec < 50 then nI 0 else nI 1) else nI 0))))) (pcj := 52) (ls := ls) (rest' := []) ?_ (fun J_3 => ?_)
  · refine lv_istore (lv' := [(4, .int (if (to (85 + sec)) = nI 1 then nI 1 else (if (st sec) < 0 then nI 1 else (if (st sec) = nI pe then nI 1 else (if (to (1 + pe)) = nI 2 then (if sec < 50 then nI 0 else nI 1) else nI 0))))), (3, .int (st sec)), (0, .ref (ad 0)), (1, .int (nI pe)), (2, .int (nI sec))]) hx hb dX8_costs_52 hl (by decide) rfl (fun ls hl => ?_)
    refine lv_iload hx hb dX8_costs_54 (lv_at hl 0 rfl) ?_
    refine mv_phi (v := (if (if (to (85 + sec)) = nI 1 then nI 1 else (if (st sec) < 0 then nI 1 else (if (st sec) = nI pe then nI 1 else (if (to (1 + pe)) = nI 2 then (if sec < 50 then nI 0 else nI 1) else nI 0)))) = 0 then (f_X8_costOf to ((st sec).toNatClampNeg)) else nI 0)) (pcj := 68) (ls := ls) (rest' := []) ?_ (fun J_1 => ?_)
    · have hf : (f_X8_costs to st pe sec) = (if (if (to (85 + sec)) = nI 1 then nI 1 else (if (st sec) < 0 then nI 1 else (if (st sec) = nI pe then nI 1 else (if (to (1 + pe)) = nI 2 then (if sec < 50 then nI 0 else nI 1) else nI 0)))) = 0 then (f_X8_costOf to ((st sec).toNatClampNeg)) else nI 0) := by rw [f_X8_costs]
      exact W.iret (v := (if (if (to (85 + sec)) = nI 1 then nI 1 else (if (st sec) < 0 then nI 1 else (if (st sec) = nI pe then nI 1 else (if (to (1 + pe)) = nI 2 then (if sec < 50 then nI 0 else nI 1) else nI 0)))) = 0 then (f_X8_costOf to ((st sec).toNatClampNeg)) else nI 0)) hx hb hr (fun t ht hW => ⟨(if (if (to (85 + sec)) = nI 1 then nI 1 else (if (st sec) < 0 then nI 1 else (if (st sec) = nI pe then nI 1 else (if (to (1 + pe)) = nI 2 then (if sec < 50 then nI 0 else nI 1) else nI 0)))) = 0 then (f_X8_costOf to ((st sec).toNatClampNeg)) else nI 0), rfl, hf.symm, ht⟩) (fun _ h => by cases h) dX8_costs_68
    · refine lv_if_eq (tgt := 63) hx hb dX8_costs_56 (by decide) (fun c_2 => ?_) (fun c_2 => ?_)
      · refine lv_aload_n hx hb dX8_costs_63 rfl (lv_at hl 2 rfl) ?_
        refine lv_iload_n hx hb dX8_costs_64 rfl (lv_at hl 1 rfl) ?_
        refine mv_top (y := nI ((st sec).toNatClampNeg)) (nI_nn (cst_nn c_2)) ?_
        refine vp_callSi (va_Run.run (va_runV (As := [.int (nI ((st sec).toNatClampNeg))]) (rest := []) ⟨hx, hb, hml, hown, hts⟩ (c_X8_costOf l D cI cL cZ ad A to st mt rd un kp rw se ((st sec).toNatClampNeg) (hso sec hsec)) (cwV 1 hts gX8_costs_X8_costOf rfl rfl rfl (by decide +kernel) ⟨Nat.le_of_ble_eq_true rfl, Nat.le_of_ble_eq_true rfl⟩) ⟨sR_fb, va_recv hK hP (ci := 8) (q0 := 0) rfl rfl, sR_at hP hK hD hE⟩ rfl rfl hl.1 rfl (lv_room (Nat.le_of_ble_eq_true rfl)) dX8_costs_65 ⟨Nat.zero_le _, Nat.zero_le _⟩)) (fun r hr => ?_)
        subst hr
        exact J_1 _ (by rw [if_pos c_2])
      · refine lv_iconst (v := nI 0) hx hb dX8_costs_59 rfl ?_
        refine lv_goto (tgt := 68) hx hb dX8_costs_60 (by decide) ?_
        exact J_1 _ (by rw [if_neg c_2])
  · refine lv_icmp_eq (tgt := 47) hx hb dX8_costs_17 (by decide) (fun c_4 => ?_) (fun c_4 => ?_)
    · refine lv_iconst (v := nI 1) hx hb dX8_costs_47 rfl ?_
      refine lv_goto (tgt := 52) hx hb dX8_costs_48 (by decide) ?_
      exact J_3 _ (by rw [if_pos c_4])
    · refine lv_iload_n hx hb dX8_costs_20 rfl (lv_at hl 0 rfl) ?_
      refine lv_if_lt (tgt := 47) hx hb dX8_costs_21 (by decide) (fun c_5 => ?_) (fun c_5 => ?_)
      · refine lv_iconst (v := nI 1) hx hb dX8_costs_47 rfl ?_
        refine lv_goto (tgt := 52) hx hb dX8_costs_48 (by decide) ?_
        exact J_3 _ (by rw [if_neg c_4, if_pos c_5])
      · refine lv_iload_n hx hb dX8_costs_24 rfl (lv_at hl 0 rfl) ?_
        refine lv_iload_n hx hb dX8_costs_25 rfl (lv_at hl 2 rfl) ?_
        refine lv_icmp_eq (tgt := 47) hx hb dX8_costs_26 (by decide) (fun c_6 => ?_) (fun c_6 => ?_)
        · refine lv_iconst (v := nI 1) hx hb dX8_costs_47 rfl ?_
          refine lv_goto (tgt := 52) hx hb dX8_costs_48 (by decide) ?_
          exact J_3 _ (by rw [if_neg c_4, if_neg c_5, if_pos c_6])
        · refine lv_aload_n hx hb dX8_costs_29 rfl (lv_at hl 1 rfl) ?_
          refine va_get (D := D) (ci := 8) (v := .ref (ad 1)) (C := RX8) (T := TX8) (N := 18) hx hb hts (by decide +kernel) hown hK hP 0 rfl rfl 0 (by decide) (hts (.fieldLink RX8 7 "SummitTimeModel" "told" "[I") (by decide +kernel)) (fun _ h9 => h9) rfl dX8_costs_30 ?_
          refine lv_iconst (v := nI 1) hx hb dX8_costs_33 rfl ?_
          refine lv_iload_n hx hb dX8_costs_34 rfl (lv_at hl 2 rfl) ?_
          refine mv_iadd hx hb dX8_costs_35 ?_
          refine mv_iald (f := to) hx hb hK hP 1 0 rfl rfl (by omega) (by decide) dX8_costs_36 ?_
          refine lv_iconst (v := nI 2) hx hb dX8_costs_37 rfl ?_
          refine lv_icmp_ne (tgt := 51) hx hb dX8_costs_38 (by decide) (fun c_7 => ?_) (fun c_7 => ?_)
          · refine lv_iconst (v := nI 0) hx hb dX8_costs_51 rfl ?_
            exact J_3 _ (by rw [if_neg c_4, if_neg c_5, if_neg c_6, if_neg c_7])
          · refine lv_iload_n hx hb dX8_costs_41 rfl (lv_at hl 3 rfl) ?_
            refine lv_bipush (v := nI 50) hx hb dX8_costs_42 rfl ?_
            refine mv_icmp_lt (tgt := 51) hx hb dX8_costs_44 (by decide) (by omega) (by decide) (fun c_8 => ?_) (fun c_8 => ?_)
            · refine lv_iconst (v := nI 0) hx hb dX8_costs_51 rfl ?_
              exact J_3 _ (by rw [if_neg c_4, if_neg c_5, if_neg c_6, if_pos c_7, if_pos c_8])
            · refine lv_iconst (v := nI 1) hx hb dX8_costs_47 rfl ?_
              refine lv_goto (tgt := 52) hx hb dX8_costs_48 (by decide) ?_
              exact J_3 _ (by rw [if_neg c_4, if_neg c_5, if_neg c_6, if_pos c_7, if_neg c_8])
def L_X8_fullFine_25 (to : (Nat → Int32)) (st : (Nat → Int32)) (k_4 : Nat) : Nat → Nat → Int32 → Int32
  | 0, _, x4_25 => x4_25
  | n_25 + 1, k_25, x4_25 => (L_X8_fullFine_25 to st k_4 n_25 (k_25 + 1) (x4_25 + (if (f_X8_standsIn to st k_25 (nI k_4)) = 0 then nI 0 else nI 1)))
def L_X8_fullFine_4 (to : (Nat → Int32)) (st : (Nat → Int32)) (pe : Nat) : Nat → Nat → Int32 → Int32
  | 0, _, x2_4 => x2_4
  | n_4 + 1, k_4, x2_4 => (if (f_X8_standsIn to st pe (nI k_4)) = 0 then (L_X8_fullFine_4 to st pe n_4 (k_4 + 1) x2_4) else (L_X8_fullFine_4 to st pe n_4 (k_4 + 1) (x2_4 + ((f_X8_costs to st pe k_4) + (if (L_X8_fullFine_25 to st k_4 pe 0 (nI 0)) ≤ nI 1 then nI 0 else nI 1)))))
def f_X8_fullFine (to : (Nat → Int32)) (st : (Nat → Int32)) (pe : Nat) : Int32 := (L_X8_fullFine_4 to st pe 60 0 (nI 0))
abbrev rm_X8_fullFine : Room := { frames := 3, cells := 0, slots := 0, locals := 67 }
set_option maxHeartbeats 4000000 in
set_option maxRecDepth 100000 in
theorem c_X8_fullFine (l : Launch) (D : va_G) (cI cL cZ : ClassId) (ad : Nat → Nat) (A : Nat → Prop) (to : (Nat → Int32)) (st : (Nat → Int32)) (mt : MTx) (rd : (Nat → Int32)) (un : MUn) (kp : MKp) (rw : MKp) (se : MUn) (pe : Nat) (hpe : pe < 6) (hso : ∀ j, j < 60 → (st j).toNatClampNeg < 6) : Met l yX8_fullFine wsX8_fullFine rm_X8_fullFine (va_Pc [.ref (ad 0), .int (nI pe)] (sR D cI cL cZ A (mW cI cL cZ ad to st mt rd un kp rw se))) (vp_Si (fun r => r = (f_X8_fullFine to st pe))) 0 0 (fun _ => False) := by
  refine Met.ofW (cc := cX8_fullFine) (maxL := 6) (ret := (some .int)) (by decide) rfl ?_
  intro p e s m args below meth c s₁ B hml hv
  obtain ⟨rfl, hP, hK, hD, hE⟩ := hv
  have hx := B.exec
  have hb := B.bytes
  have hr := B.returns
  have hts := atoms_spec (ws := wsX8_fullFine) B.pre
  have hown : s.vm.findClass RX8 = some m.cls := findClass_of_methodNamed B.named
  have hlocks := B.notSynchronized
  have hl := lv_entry ([.ref (ad 0), .int (nI pe)]) (n := 6) (Nat.le_of_ble_eq_true rfl)
  rw [lg_entry_eq]
  generalize (lg_sl ([.ref (ad 0), .int (nI pe)]) ++ List.replicate (6 - (lg_sl ([.ref (ad 0), .int (nI pe)])).length) Slot.unset).toArray = ls at hl ⊢
  have hl : lv_has ls 6 [(0, .ref (ad 0)), (1, .int (nI pe))] := hl
  obtain ⟨Q, hQe⟩ : ∃ Q, Q = MQ below (vp_Si (fun r => r = (f_X8_fullFine to st pe))) ([.ref (ad 0), .int (nI pe)] : List Value).toArray s 0 0 (fun _ => False) := ⟨_, rfl⟩
  show W p l e (headSpec wsX8_fullFine rm_X8_fullFine).room s m ([.ref (ad 0), .int (nI pe)] : List Value).toArray below meth c s.heap [] 0 0 (MQ below (vp_Si (fun r => r = (f_X8_fullFine to st pe))) ([.ref (ad 0), .int (nI pe)] : List Value).toArray s 0 0 (fun _ => False)) (F0 m 0 ls [])
  rw [← hQe]
  refine lv_iconst (v := nI 0) hx hb dX8_fullFine_0 rfl ?_
  refine lv_istore_n (lv' := [(2, .int (nI 0)), (0, .ref (ad 0)), (1, .int (nI pe))]) hx hb dX8_fullFine_1 rfl hl (by decide) rfl (fun ls hl => ?_)
  refine lv_iconst (v := nI 0) hx hb dX8_fullFine_2 rfl ?_
  refine lv_istore_n (lv' := [(3, .int (nI 0)), (2, .int (nI 0)), (0, .ref (ad 0)), (1, .int (nI pe))]) hx hb dX8_fullFine_3 rfl hl (by decide) rfl (fun ls hl => ?_)
  obtain ⟨T_4_3, hT_4_3⟩ : ∃ z, z = (L_X8_fullFine_4 to st pe 60 0 (nI 0)) := ⟨_, rfl⟩
  have hexit_4 : ∀ (ls : Array Slot), lv_has ls 6 [(2, .int T_4_3), (0, .ref (ad 0)), (1, .int (nI pe))] → W p l e (headSpec wsX8_fullFine rm_X8_fullFine).room s m ([.ref (ad 0), .int (nI pe)] : List Value).toArray below meth c s.heap [] 0 0 Q (F0 m 84 ls []) := by
    intro ls hl
    refine lv_iload_n hx hb dX8_fullFine_84 rfl (lv_at hl 0 rfl) ?_
    subst hQe
    have hf : (f_X8_fullFine to st pe) = T_4_3 := by subst hT_4_3; rw [f_X8_fullFine]
    exact W.iret (v := T_4_3) hx hb hr (fun t ht hW => ⟨T_4_3, rfl, hf.symm, ht⟩) (fun _ h => by cases h) dX8_fullFine_85
  have loop_4 : ∀ (n_4 : Nat) (k_4 : Nat) (x2_4 : Int32), (k_4 + n_4 = 60) → L_X8_fullFine_4 to st pe n_4 k_4 x2_4 = T_4_3 → ∀ (ls : Array Slot), lv_has ls 6 [(3, .int (nI k_4)), (2, .int x2_4), (0, .ref (ad 0)), (1, .int (nI pe))] → W p l e (headSpec wsX8_fullFine rm_X8_fullFine).room s m ([.ref (ad 0), .int (nI pe)] : List Value).toArray below meth c s.heap [] 0 0 Q (F0 m 4 ls []) := by
    intro n_4
    induction n_4 with
    | zero =>
      intro k_4 x2_4 hk_4 hL_4 ls hl
      refine lv_iload_n hx hb dX8_fullFine_4 rfl (lv_at hl 0 rfl) ?_
      refine lv_bipush (v := nI 60) hx hb dX8_fullFine_5 rfl ?_
      refine mv_icmp_ge (tgt := 84) hx hb dX8_fullFine_7 (by decide) (by omega) (by decide) (fun c_9 => ?_) (fun c_9 => (by omega : False).elim)
      have e9 : T_4_3 = x2_4 := by rw [← hL_4, L_X8_fullFine_4]
      have hq := hexit_4
      rw [e9] at hq
      exact hq ls  (lv_sub hl [1, 2, 3] rfl)
    | succ n_4 ih_4 =>
      intro k_4 x2_4 hk_4 hL_4 ls hl
      refine lv_iload_n hx hb dX8_fullFine_4 rfl (lv_at hl 0 rfl) ?_
      refine lv_bipush (v := nI 60) hx hb dX8_fullFine_5 rfl ?_
      refine mv_icmp_ge (tgt := 84) hx hb dX8_fullFine_7 (by decide) (by omega) (by decide) (fun c_1 => (by omega : False).elim) (fun c_1 => ?_)
      refine lv_aload_n hx hb dX8_fullFine_10 rfl (lv_at hl 2 rfl) ?_
      refine lv_iload_n hx hb dX8_fullFine_11 rfl (lv_at hl 3 rfl) ?_
      refine lv_iload_n hx hb dX8_fullFine_12 rfl (lv_at hl 0 rfl) ?_
      refine vp_callSi (va_Run.run (va_runV (As := [.int (nI pe), .int (nI k_4)]) (rest := []) ⟨hx, hb, hml, hown, hts⟩ (c_X8_standsIn l D cI cL cZ ad A to st mt rd un kp rw se pe (nI k_4) (by first | assumption | omega)) (cwV 2 hts gX8_fullFine_X8_standsIn rfl rfl rfl (by decide +kernel) ⟨Nat.le_of_ble_eq_true rfl, Nat.le_of_ble_eq_true rfl⟩) ⟨sR_fb, va_recv hK hP (ci := 8) (q0 := 0) rfl rfl, sR_at hP hK hD hE⟩ rfl rfl hl.1 rfl (lv_room (Nat.le_of_ble_eq_true rfl)) dX8_fullFine_13 ⟨Nat.zero_le _, Nat.zero_le _⟩)) (fun r hr => ?_)
      subst hr
      refine lv_if_eq (tgt := 78) hx hb dX8_fullFine_16 (by decide) (fun c_2 => ?_) (fun c_2 => ?_)
      · refine mv_iinc (y := k_4 + 1) (lv' := [(3, .int (nI (k_4 + 1))), (2, .int x2_4), (0, .ref (ad 0)), (1, .int (nI pe))]) hx hb dX8_fullFine_78 hl (k := 0) rfl (nI_p1 _) (by decide) rfl (fun ls hl => ?_)
        refine lv_goto (tgt := 4) hx hb dX8_fullFine_81 (by decide) ?_
        exact ih_4 (k_4 + 1) x2_4 (by omega) (by have e9 := hL_4; rw [L_X8_fullFine_4, if_pos c_2] at e9; exact e9) ls (lv_sub hl [0, 1, 2, 3] rfl)
      · refine lv_iconst (v := nI 0) hx hb dX8_fullFine_19 rfl ?_
        refine lv_istore (lv' := [(4, .int (nI 0)), (3, .int (nI k_4)), (2, .int x2_4), (0, .ref (ad 0)), (1, .int (nI pe))]) hx hb dX8_fullFine_20 hl (by decide) rfl (fun ls hl => ?_)
        refine lv_iconst (v := nI 0) hx hb dX8_fullFine_22 rfl ?_
        refine lv_istore (lv' := [(5, .int (nI 0)), (4, .int (nI 0)), (3, .int (nI k_4)), (2, .int x2_4), (0, .ref (ad 0)), (1, .int (nI pe))]) hx hb dX8_fullFine_23 hl (by decide) rfl (fun ls hl => ?_)
        obtain ⟨T_25_4, hT_25_4⟩ : ∃ z, z = (L_X8_fullFine_25 to st k_4 pe 0 (nI 0)) := ⟨_, rfl⟩
        have hexit_25 : ∀ (ls : Array Slot), lv_has ls 6 [(4, .int T_25_4), (3, .int (nI k_4)), (2, .int x2_4), (0, .ref (ad 0)), (1, .int (nI pe))] → W p l e (headSpec wsX8_fullFine rm_X8_fullFine).room s m ([.ref (ad 0), .int (nI pe)] : List Value).toArray below meth c s.heap [] 0 0 Q (F0 m 57 ls []) := by
          intro ls hl
          refine lv_iload_n hx hb dX8_fullFine_57 rfl (lv_at hl 2 rfl) ?_
          refine lv_aload_n hx hb dX8_fullFine_58 rfl (lv_at hl 3 rfl) ?_
          refine lv_iload_n hx hb dX8_fullFine_59 rfl (lv_at hl 4 rfl) ?_
          refine lv_iload_n hx hb dX8_fullFine_60 rfl (lv_at hl 1 rfl) ?_
          refine vp_callSi (va_Run.run (va_runV (As := [.int (nI pe), .int (nI k_4)]) (rest := [.int x2_4]) ⟨hx, hb, hml, hown, hts⟩ (c_X8_costs l D cI cL cZ ad A to st mt rd un kp rw se pe k_4 (by first | assumption | omega) (by first | assumption | omega) (by first | assumption | omega)) (cwV 2 hts gX8_fullFine_X8_costs rfl rfl rfl (by decide +kernel) ⟨Nat.le_of_ble_eq_true rfl, Nat.le_of_ble_eq_true rfl⟩) ⟨sR_fb, va_recv hK hP (ci := 8) (q0 := 0) rfl rfl, sR_at hP hK hD hE⟩ rfl rfl hl.1 rfl (lv_room (Nat.le_of_ble_eq_true rfl)) dX8_fullFine_61 ⟨Nat.zero_le _, Nat.zero_le _⟩)) (fun r hr => ?_)
          subst hr
          refine lv_iload hx hb dX8_fullFine_64 (lv_at hl 0 rfl) ?_
          refine lv_iconst (v := nI 1) hx hb dX8_fullFine_66 rfl ?_
          refine mv_phi (v := (if T_25_4 ≤ nI 1 then nI 0 else nI 1)) (pcj := 75) (ls := ls) (rest' := [.int (f_X8_costs to st pe k_4), .int x2_4]) ?_ (fun J_7 => ?_)
          · refine lv_iadd hx hb dX8_fullFine_75 ?_
            refine lv_iadd hx hb dX8_fullFine_76 ?_
            refine lv_istore_n (lv' := [(2, .int (x2_4 + ((f_X8_costs to st pe k_4) + (if T_25_4 ≤ nI 1 then nI 0 else nI 1)))), (4, .int T_25_4), (3, .int (nI k_4)), (0, .ref (ad 0)), (1, .int (nI pe))]) hx hb dX8_fullFine_77 rfl hl (by decide) rfl (fun ls hl => ?_)
            refine mv_iinc (y := k_4 + 1) (lv' := [(3, .int (nI (k_4 + 1))), (2, .int (x2_4 + ((f_X8_costs to st pe k_4) + (if T_25_4 ≤ nI 1 then nI 0 else nI 1)))), (4, .int T_25_4), (0, .ref (ad 0)), (1, .int (nI pe))]) hx hb dX8_fullFine_78 hl (k := 2) rfl (nI_p1 _) (by decide) rfl (fun ls hl => ?_)
            refine lv_goto (tgt := 4) hx hb dX8_fullFine_81 (by decide) ?_
            exact ih_4 (k_4 + 1) (x2_4 + ((f_X8_costs to st pe k_4) + (if T_25_4 ≤ nI 1 then nI 0 else nI 1))) (by omega) (by subst hT_25_4; have e9 := hL_4; rw [L_X8_fullFine_4, if_neg c_2] at e9; exact e9) ls (lv_sub hl [0, 1, 3, 4] rfl)
          · refine lv_icmp_le (tgt := 74) hx hb dX8_fullFine_67 (by decide) (fun c_8 => ?_) (fun c_8 => ?_)
            · refine lv_iconst (v := nI 0) hx hb dX8_fullFine_74 rfl ?_
              exact J_7 _ (by rw [if_pos c_8])
            · refine lv_iconst (v := nI 1) hx hb dX8_fullFine_70 rfl ?_
              refine lv_goto (tgt := 75) hx hb dX8_fullFine_71 (by decide) ?_
              exact J_7 _ (by rw [if_neg c_8])
        have loop_25 : ∀ (n_25 : Nat) (k_25 : Nat) (x4_25 : Int32), (k_25 + n_25 = pe) → L_X8_fullFine_25 to st k_4 n_25 k_25 x4_25 = T_25_4 → ∀ (ls : Array Slot), lv_has ls 6 [(5, .int (nI k_25)), (4, .int x4_25), (3, .int (nI k_4)), (2, .int x2_4), (0, .ref (ad 0)), (1, .int (nI pe))] → W p l e (headSpec wsX8_fullFine rm_X8_fullFine).room s m ([.ref (ad 0), .int (nI pe)] : List Value).toArray below meth c s.heap [] 0 0 Q (F0 m 25 ls []) := by
          intro n_25
          induction n_25 with
          | zero =>
            intro k_25 x4_25 hk_25 hL_25 ls hl
            refine lv_iload hx hb dX8_fullFine_25 (lv_at hl 0 rfl) ?_
            refine lv_iload_n hx hb dX8_fullFine_27 rfl (lv_at hl 5 rfl) ?_
            refine mv_icmp_ge (tgt := 57) hx hb dX8_fullFine_28 (by decide) (by omega) (by omega) (fun c_6 => ?_) (fun c_6 => (by omega : False).elim)
            have e9 : T_25_4 = x4_25 := by rw [← hL_25, L_X8_fullFine_25]
            have hq := hexit_25
            rw [e9] at hq
            exact hq ls  (lv_sub hl [1, 2, 3, 4, 5] rfl)
          | succ n_25 ih_25 =>
            intro k_25 x4_25 hk_25 hL_25 ls hl
            refine lv_iload hx hb dX8_fullFine_25 (lv_at hl 0 rfl) ?_
            refine lv_iload_n hx hb dX8_fullFine_27 rfl (lv_at hl 5 rfl) ?_
            refine mv_icmp_ge (tgt := 57) hx hb dX8_fullFine_28 (by decide) (by omega) (by omega) (fun c_3 => (by omega : False).elim) (fun c_3 => ?_)
            refine lv_iload hx hb dX8_fullFine_31 (lv_at hl 1 rfl) ?_
            refine lv_aload_n hx hb dX8_fullFine_33 rfl (lv_at hl 4 rfl) ?_
            refine lv_iload hx hb dX8_fullFine_34 (lv_at hl 0 rfl) ?_
            refine lv_iload_n hx hb dX8_fullFine_36 rfl (lv_at hl 2 rfl) ?_
            refine vp_callSi (va_Run.run (va_runV (As := [.int (nI k_25), .int (nI k_4)]) (rest := [.int x4_25]) ⟨hx, hb, hml, hown, hts⟩ (c_X8_standsIn l D cI cL cZ ad A to st mt rd un kp rw se k_25 (nI k_4) (by first | assumption | omega)) (cwV 2 hts gX8_fullFine_X8_standsIn rfl rfl rfl (by decide +kernel) ⟨Nat.le_of_ble_eq_true rfl, Nat.le_of_ble_eq_true rfl⟩) ⟨sR_fb, va_recv hK hP (ci := 8) (q0 := 0) rfl rfl, sR_at hP hK hD hE⟩ rfl rfl hl.1 rfl (lv_room (Nat.le_of_ble_eq_true rfl)) dX8_fullFine_37 ⟨Nat.zero_le _, Nat.zero_le _⟩)) (fun r hr => ?_)
            subst hr
            refine mv_phi (v := (if (f_X8_standsIn to st k_25 (nI k_4)) = 0 then nI 0 else nI 1)) (pcj := 48) (ls := ls) (rest' := [.int x4_25]) ?_ (fun J_4 => ?_)
            · refine lv_iadd hx hb dX8_fullFine_48 ?_
              refine lv_istore (lv' := [(4, .int (x4_25 + (if (f_X8_standsIn to st k_25 (nI k_4)) = 0 then nI 0 else nI 1))), (5, .int (nI k_25)), (3, .int (nI k_4)), (2, .int x2_4), (0, .ref (ad 0)), (1, .int (nI pe))]) hx hb dX8_fullFine_49 hl (by decide) rfl (fun ls hl => ?_)
              refine mv_iinc (y := k_25 + 1) (lv' := [(5, .int (nI (k_25 + 1))), (4, .int (x4_25 + (if (f_X8_standsIn to st k_25 (nI k_4)) = 0 then nI 0 else nI 1))), (3, .int (nI k_4)), (2, .int x2_4), (0, .ref (ad 0)), (1, .int (nI pe))]) hx hb dX8_fullFine_51 hl (k := 1) rfl (nI_p1 _) (by decide) rfl (fun ls hl => ?_)
              refine lv_goto (tgt := 25) hx hb dX8_fullFine_54 (by decide) ?_
              exact ih_25 (k_25 + 1) (x4_25 + (if (f_X8_standsIn to st k_25 (nI k_4)) = 0 then nI 0 else nI 1)) (by omega) (by have e9 := hL_25; rw [L_X8_fullFine_25] at e9; exact e9) ls (lv_sub hl [0, 1, 2, 3, 4, 5] rfl)
            · refine lv_if_eq (tgt := 47) hx hb dX8_fullFine_40 (by decide) (fun c_5 => ?_) (fun c_5 => ?_)
              · refine lv_iconst (v := nI 0) hx hb dX8_fullFine_47 rfl ?_
                exact J_4 _ (by rw [if_pos c_5])
              · refine lv_iconst (v := nI 1) hx hb dX8_fullFine_43 rfl ?_
                refine lv_goto (tgt := 48) hx hb dX8_fullFine_44 (by decide) ?_
                exact J_4 _ (by rw [if_neg c_5])
        exact loop_25 pe 0 (nI 0) (by omega) hT_25_4.symm ls (lv_sub hl [0, 1, 2, 3, 4, 5] rfl)
  exact loop_4 60 0 (nI 0) (by omega) hT_4_3.symm ls (lv_sub hl [0, 1, 2, 3] rfl)
def f_X8_fineOf (to : (Nat → Int32)) (st : (Nat → Int32)) (pe : Nat) : Int32 := (if (st (66 + pe)) = nI 1 then ((f_X8_fullFine to st pe) / (nI 2)) else (f_X8_fullFine to st pe))
abbrev rm_X8_fineOf : Room := { frames := 4, cells := 0, slots := 0, locals := 92 }
set_option maxHeartbeats 4000000 in
set_option maxRecDepth 100000 in
theorem c_X8_fineOf (l : Launch) (D : va_G) (cI cL cZ : ClassId) (ad : Nat → Nat) (A : Nat → Prop) (to : (Nat → Int32)) (st : (Nat → Int32)) (mt : MTx) (rd : (Nat → Int32)) (un : MUn) (kp : MKp) (rw : MKp) (se : MUn) (pe : Nat) (hpe : pe < 6) (hso : ∀ j, j < 60 → (st j).toNatClampNeg < 6) : Met l yX8_fineOf wsX8_fineOf rm_X8_fineOf (va_Pc [.ref (ad 0), .int (nI pe)] (sR D cI cL cZ A (mW cI cL cZ ad to st mt rd un kp rw se))) (vp_Si (fun r => r = (f_X8_fineOf to st pe))) 0 0 (fun _ => False) := by
  refine Met.ofW (cc := cX8_fineOf) (maxL := 2) (ret := (some .int)) (by decide) rfl ?_
  intro p e s m args below meth c s₁ B hml hv
  obtain ⟨rfl, hP, hK, hD, hE⟩ := hv
  have hx := B.exec
  have hb := B.bytes
  have hr := B.returns
  have hts := atoms_spec (ws := wsX8_fineOf) B.pre
  have hown : s.vm.findClass RX8 = some m.cls := findClass_of_methodNamed B.named
  have hlocks := B.notSynchronized
  have hl := lv_entry ([.ref (ad 0), .int (nI pe)]) (n := 2) (Nat.le_of_ble_eq_true rfl)
  rw [lg_entry_eq]
  generalize (lg_sl ([.ref (ad 0), .int (nI pe)]) ++ List.replicate (2 - (lg_sl ([.ref (ad 0), .int (nI pe)])).length) Slot.unset).toArray = ls at hl ⊢
  have hl : lv_has ls 2 [(0, .ref (ad 0)), (1, .int (nI pe))] := hl
  refine lv_aload_n hx hb dX8_fineOf_0 rfl (lv_at hl 0 rfl) ?_
  refine va_get (D := D) (ci := 8) (v := .ref (ad 2)) (C := RX8) (T := TX8) (N := 18) hx hb hts (by decide +kernel) hown hK hP 0 rfl rfl 1 (by decide) (hts (.fieldLink RX8 13 "SummitTimeModel" "st" "[I") (by decide +kernel)) (fun _ h9 => h9) rfl dX8_fineOf_1 ?_
  refine lv_bipush (v := nI 66) hx hb dX8_fineOf_4 rfl ?_
  refine lv_iload_n hx hb dX8_fineOf_6 rfl (lv_at hl 1 rfl) ?_
  refine mv_iadd hx hb dX8_fineOf_7 ?_
  refine mv_iald (f := st) hx hb hK hP 2 0 rfl rfl (by omega) (by decide) dX8_fineOf_8 ?_
  refine lv_iconst (v := nI 1) hx hb dX8_fineOf_9 rfl ?_
  refine mv_phi (v := (if (st (66 + pe)) = nI 1 then ((f_X8_fullFine to st pe) / (nI 2)) else (f_X8_fullFine to st pe))) (pcj := 28) (ls := ls) (rest' := []) ?_ (fun J_1 => ?_)
  · have hf : (f_X8_fineOf to st pe) = (if (st (66 + pe)) = nI 1 then ((f_X8_fullFine to st pe) / (nI 2)) else (f_X8_fullFine to st pe)) := by rw [f_X8_fineOf]
    exact W.iret (v := (if (st (66 + pe)) = nI 1 then ((f_X8_fullFine to st pe) / (nI 2)) else (f_X8_fullFine to st pe))) hx hb hr (fun t ht hW => ⟨(if (st (66 + pe)) = nI 1 then ((f_X8_fullFine to st pe) / (nI 2)) else (f_X8_fullFine to st pe)), rfl, hf.symm, ht⟩) (fun _ h => by cases h) dX8_fineOf_28
  · refine lv_icmp_ne (tgt := 23) hx hb dX8_fineOf_10 (by decide) (fun c_2 => ?_) (fun c_2 => ?_)
    · refine lv_aload_n hx hb dX8_fineOf_23 rfl (lv_at hl 0 rfl) ?_
      refine lv_iload_n hx hb dX8_fineOf_24 rfl (lv_at hl 1 rfl) ?_
      refine vp_callSi (va_Run.run (va_runV (As := [.int (nI pe)]) (rest := []) ⟨hx, hb, hml, hown, hts⟩ (c_X8_fullFine l D cI cL cZ ad A to st mt rd un kp rw se pe (by first | assumption | omega) (by first | assumption | omega)) (cwV 1 hts gX8_fineOf_X8_fullFine rfl rfl rfl (by decide +kernel) ⟨Nat.le_of_ble_eq_true rfl, Nat.le_of_ble_eq_true rfl⟩) ⟨sR_fb, va_recv hK hP (ci := 8) (q0 := 0) rfl rfl, sR_at hP hK hD hE⟩ rfl rfl hl.1 rfl (lv_room (Nat.le_of_ble_eq_true rfl)) dX8_fineOf_25 ⟨Nat.zero_le _, Nat.zero_le _⟩)) (fun r hr => ?_)
      subst hr
      exact J_1 _ (by rw [if_neg c_2])
    · refine lv_aload_n hx hb dX8_fineOf_13 rfl (lv_at hl 0 rfl) ?_
      refine lv_iload_n hx hb dX8_fineOf_14 rfl (lv_at hl 1 rfl) ?_
      refine vp_callSi (va_Run.run (va_runV (As := [.int (nI pe)]) (rest := []) ⟨hx, hb, hml, hown, hts⟩ (c_X8_fullFine l D cI cL cZ ad A to st mt rd un kp rw se pe (by first | assumption | omega) (by first | assumption | omega)) (cwV 1 hts gX8_fineOf_X8_fullFine rfl rfl rfl (by decide +kernel) ⟨Nat.le_of_ble_eq_true rfl, Nat.le_of_ble_eq_true rfl⟩) ⟨sR_fb, va_recv hK hP (ci := 8) (q0 := 0) rfl rfl, sR_at hP hK hD hE⟩ rfl rfl hl.1 rfl (lv_room (Nat.le_of_ble_eq_true rfl)) dX8_fineOf_15 ⟨Nat.zero_le _, Nat.zero_le _⟩)) (fun r hr => ?_)
      subst hr
      refine lv_iconst (v := nI 2) hx hb dX8_fineOf_18 rfl ?_
      refine lv_idiv hx hb dX8_fineOf_19 (by decide) ?_
      refine lv_goto (tgt := 28) hx hb dX8_fineOf_20 (by decide) ?_
      exact J_1 _ (by rw [if_pos c_2])
def L_X8_standMany_4 (to : (Nat → Int32)) (st : (Nat → Int32)) (pe : Nat) : Nat → Nat → Int32 → Int32
  | 0, _, x2_4 => x2_4
  | n_4 + 1, k_4, x2_4 => (L_X8_standMany_4 to st pe n_4 (k_4 + 1) (x2_4 + (if (f_X8_standsIn to st pe (nI k_4)) = 0 then nI 0 else nI 1)))
def f_X8_standMany (to : (Nat → Int32)) (st : (Nat → Int32)) (pe : Nat) : Int32 := (L_X8_standMany_4 to st pe 60 0 (nI 0))
abbrev rm_X8_standMany : Room := { frames := 3, cells := 0, slots := 0, locals := 67 }
set_option maxHeartbeats 4000000 in
set_option maxRecDepth 100000 in
theorem c_X8_standMany (l : Launch) (D : va_G) (cI cL cZ : ClassId) (ad : Nat → Nat) (A : Nat → Prop) (to : (Nat → Int32)) (st : (Nat → Int32)) (mt : MTx) (rd : (Nat → Int32)) (un : MUn) (kp : MKp) (rw : MKp) (se : MUn) (pe : Nat) (hpe : pe < 6) : Met l yX8_standMany wsX8_standMany rm_X8_standMany (va_Pc [.ref (ad 0), .int (nI pe)] (sR D cI cL cZ A (mW cI cL cZ ad to st mt rd un kp rw se))) (vp_Si (fun r => r = (f_X8_standMany to st pe))) 0 0 (fun _ => False) := by
  refine Met.ofW (cc := cX8_standMany) (maxL := 4) (ret := (some .int)) (by decide) rfl ?_
  intro p e s m args below meth c s₁ B hml hv
  obtain ⟨rfl, hP, hK, hD, hE⟩ := hv
  have hx := B.exec
  have hb := B.bytes
  have hr := B.returns
  have hts := atoms_spec (ws := wsX8_standMany) B.pre
  have hown : s.vm.findClass RX8 = some m.cls := findClass_of_methodNamed B.named
  have hlocks := B.notSynchronized
  have hl := lv_entry ([.ref (ad 0), .int (nI pe)]) (n := 4) (Nat.le_of_ble_eq_true rfl)
  rw [lg_entry_eq]
  generalize (lg_sl ([.ref (ad 0), .int (nI pe)]) ++ List.replicate (4 - (lg_sl ([.ref (ad 0), .int (nI pe)])).length) Slot.unset).toArray = ls at hl ⊢
  have hl : lv_has ls 4 [(0, .ref (ad 0)), (1, .int (nI pe))] := hl
  obtain ⟨Q, hQe⟩ : ∃ Q, Q = MQ below (vp_Si (fun r => r = (f_X8_standMany to st pe))) ([.ref (ad 0), .int (nI pe)] : List Value).toArray s 0 0 (fun _ => False) := ⟨_, rfl⟩
  show W p l e (headSpec wsX8_standMany rm_X8_standMany).room s m ([.ref (ad 0), .int (nI pe)] : List Value).toArray below meth c s.heap [] 0 0 (MQ below (vp_Si (fun r => r = (f_X8_standMany to st pe))) ([.ref (ad 0), .int (nI pe)] : List Value).toArray s 0 0 (fun _ => False)) (F0 m 0 ls [])
  rw [← hQe]
  refine lv_iconst (v := nI 0) hx hb dX8_standMany_0 rfl ?_
  refine lv_istore_n (lv' := [(2, .int (nI 0)), (0, .ref (ad 0)), (1, .int (nI pe))]) hx hb dX8_standMany_1 rfl hl (by decide) rfl (fun ls hl => ?_)
  refine lv_iconst (v := nI 0) hx hb dX8_standMany_2 rfl ?_
  refine lv_istore_n (lv' := [(3, .int (nI 0)), (2, .int (nI 0)), (0, .ref (ad 0)), (1, .int (nI pe))]) hx hb dX8_standMany_3 rfl hl (by decide) rfl (fun ls hl => ?_)
  obtain ⟨T_4_1, hT_4_1⟩ : ∃ z, z = (L_X8_standMany_4 to st pe 60 0 (nI 0)) := ⟨_, rfl⟩
  have hexit_4 : ∀ (ls : Array Slot), lv_has ls 4 [(2, .int T_4_1), (0, .ref (ad 0)), (1, .int (nI pe))] → W p l e (headSpec wsX8_standMany rm_X8_standMany).room s m ([.ref (ad 0), .int (nI pe)] : List Value).toArray below meth c s.heap [] 0 0 Q (F0 m 33 ls []) := by
    intro ls hl
    refine lv_iload_n hx hb dX8_standMany_33 rfl (lv_at hl 0 rfl) ?_
    subst hQe
    have hf : (f_X8_standMany to st pe) = T_4_1 := by subst hT_4_1; rw [f_X8_standMany]
    exact W.iret (v := T_4_1) hx hb hr (fun t ht hW => ⟨T_4_1, rfl, hf.symm, ht⟩) (fun _ h => by cases h) dX8_standMany_34
  have loop_4 : ∀ (n_4 : Nat) (k_4 : Nat) (x2_4 : Int32), (k_4 + n_4 = 60) → L_X8_standMany_4 to st pe n_4 k_4 x2_4 = T_4_1 → ∀ (ls : Array Slot), lv_has ls 4 [(3, .int (nI k_4)), (2, .int x2_4), (0, .ref (ad 0)), (1, .int (nI pe))] → W p l e (headSpec wsX8_standMany rm_X8_standMany).room s m ([.ref (ad 0), .int (nI pe)] : List Value).toArray below meth c s.heap [] 0 0 Q (F0 m 4 ls []) := by
    intro n_4
    induction n_4 with
    | zero =>
      intro k_4 x2_4 hk_4 hL_4 ls hl
      refine lv_iload_n hx hb dX8_standMany_4 rfl (lv_at hl 0 rfl) ?_
      refine lv_bipush (v := nI 60) hx hb dX8_standMany_5 rfl ?_
      refine mv_icmp_ge (tgt := 33) hx hb dX8_standMany_7 (by decide) (by omega) (by decide) (fun c_4 => ?_) (fun c_4 => (by omega : False).elim)
      have e9 : T_4_1 = x2_4 := by rw [← hL_4, L_X8_standMany_4]
      have hq := hexit_4
      rw [e9] at hq
      exact hq ls  (lv_sub hl [1, 2, 3] rfl)
    | succ n_4 ih_4 =>
      intro k_4 x2_4 hk_4 hL_4 ls hl
      refine lv_iload_n hx hb dX8_standMany_4 rfl (lv_at hl 0 rfl) ?_
      refine lv_bipush (v := nI 60) hx hb dX8_standMany_5 rfl ?_
      refine mv_icmp_ge (tgt := 33) hx hb dX8_standMany_7 (by decide) (by omega) (by decide) (fun c_1 => (by omega : False).elim) (fun c_1 => ?_)
      refine lv_iload_n hx hb dX8_standMany_10 rfl (lv_at hl 1 rfl) ?_
      refine lv_aload_n hx hb dX8_standMany_11 rfl (lv_at hl 2 rfl) ?_
      refine lv_iload_n hx hb dX8_standMany_12 rfl (lv_at hl 3 rfl) ?_
      refine lv_iload_n hx hb dX8_standMany_13 rfl (lv_at hl 0 rfl) ?_
      refine vp_callSi (va_Run.run (va_runV (As := [.int (nI pe), .int (nI k_4)]) (rest := [.int x2_4]) ⟨hx, hb, hml, hown, hts⟩ (c_X8_standsIn l D cI cL cZ ad A to st mt rd un kp rw se pe (nI k_4) (by first | assumption | omega)) (cwV 2 hts gX8_standMany_X8_standsIn rfl rfl rfl (by decide +kernel) ⟨Nat.le_of_ble_eq_true rfl, Nat.le_of_ble_eq_true rfl⟩) ⟨sR_fb, va_recv hK hP (ci := 8) (q0 := 0) rfl rfl, sR_at hP hK hD hE⟩ rfl rfl hl.1 rfl (lv_room (Nat.le_of_ble_eq_true rfl)) dX8_standMany_14 ⟨Nat.zero_le _, Nat.zero_le _⟩)) (fun r hr => ?_)
      subst hr
      refine mv_phi (v := (if (f_X8_standsIn to st pe (nI k_4)) = 0 then nI 0 else nI 1)) (pcj := 25) (ls := ls) (rest' := [.int x2_4]) ?_ (fun J_2 => ?_)
      · refine lv_iadd hx hb dX8_standMany_25 ?_
        refine lv_istore_n (lv' := [(2, .int (x2_4 + (if (f_X8_standsIn to st pe (nI k_4)) = 0 then nI 0 else nI 1))), (3, .int (nI k_4)), (0, .ref (ad 0)), (1, .int (nI pe))]) hx hb dX8_standMany_26 rfl hl (by decide) rfl (fun ls hl => ?_)
        refine mv_iinc (y := k_4 + 1) (lv' := [(3, .int (nI (k_4 + 1))), (2, .int (x2_4 + (if (f_X8_standsIn to st pe (nI k_4)) = 0 then nI 0 else nI 1))), (0, .ref (ad 0)), (1, .int (nI pe))]) hx hb dX8_standMany_27 hl (k := 1) rfl (nI_p1 _) (by decide) rfl (fun ls hl => ?_)
        refine lv_goto (tgt := 4) hx hb dX8_standMany_30 (by decide) ?_
        exact ih_4 (k_4 + 1) (x2_4 + (if (f_X8_standsIn to st pe (nI k_4)) = 0 then nI 0 else nI 1)) (by omega) (by have e9 := hL_4; rw [L_X8_standMany_4] at e9; exact e9) ls (lv_sub hl [0, 1, 2, 3] rfl)
      · refine lv_if_eq (tgt := 24) hx hb dX8_standMany_17 (by decide) (fun c_3 => ?_) (fun c_3 => ?_)
        · refine lv_iconst (v := nI 0) hx hb dX8_standMany_24 rfl ?_
          exact J_2 _ (by rw [if_pos c_3])
        · refine lv_iconst (v := nI 1) hx hb dX8_standMany_20 rfl ?_
          refine lv_goto (tgt := 25) hx hb dX8_standMany_21 (by decide) ?_
          exact J_2 _ (by rw [if_neg c_3])
  exact loop_4 60 0 (nI 0) (by omega) hT_4_1.symm ls (lv_sub hl [0, 1, 2, 3] rfl)
def L_X8_ownMany_4 (st : (Nat → Int32)) (pe : Int32) : Nat → Nat → Int32 → Int32
  | 0, _, x2_4 => x2_4
  | n_4 + 1, k_4, x2_4 => (L_X8_ownMany_4 st pe n_4 (k_4 + 1) (x2_4 + (if (st k_4) = pe then nI 1 else nI 0)))
def f_X8_ownMany (st : (Nat → Int32)) (pe : Int32) : Int32 := (L_X8_ownMany_4 st pe 60 0 (nI 0))
abbrev rm_X8_ownMany : Room := { frames := 0, cells := 0, slots := 0, locals := 0 }
set_option maxHeartbeats 4000000 in
set_option maxRecDepth 100000 in
theorem c_X8_ownMany (l : Launch) (D : va_G) (cI cL cZ : ClassId) (ad : Nat → Nat) (A : Nat → Prop) (to : (Nat → Int32)) (st : (Nat → Int32)) (mt : MTx) (rd : (Nat → Int32)) (un : MUn) (kp : MKp) (rw : MKp) (se : MUn) (pe : Int32)  : Met l yX8_ownMany wsX8_ownMany rm_X8_ownMany (va_Pc [.ref (ad 0), .int pe] (sR D cI cL cZ A (mW cI cL cZ ad to st mt rd un kp rw se))) (vp_Si (fun r => r = (f_X8_ownMany st pe))) 0 0 (fun _ => False) := by
  refine Met.ofW (cc := cX8_ownMany) (maxL := 4) (ret := (some .int)) (by decide) rfl ?_
  intro p e s m args below meth c s₁ B hml hv
  obtain ⟨rfl, hP, hK, hD, hE⟩ := hv
  have hx := B.exec
  have hb := B.bytes
  have hr := B.returns
  have hts := atoms_spec (ws := wsX8_ownMany) B.pre
  have hown : s.vm.findClass RX8 = some m.cls := findClass_of_methodNamed B.named
  have hlocks := B.notSynchronized
  have hl := lv_entry ([.ref (ad 0), .int pe]) (n := 4) (Nat.le_of_ble_eq_true rfl)
  rw [lg_entry_eq]
  generalize (lg_sl ([.ref (ad 0), .int pe]) ++ List.replicate (4 - (lg_sl ([.ref (ad 0), .int pe])).length) Slot.unset).toArray = ls at hl ⊢
  have hl : lv_has ls 4 [(0, .ref (ad 0)), (1, .int pe)] := hl
  obtain ⟨Q, hQe⟩ : ∃ Q, Q = MQ below (vp_Si (fun r => r = (f_X8_ownMany st pe))) ([.ref (ad 0), .int pe] : List Value).toArray s 0 0 (fun _ => False) := ⟨_, rfl⟩
  show W p l e (headSpec wsX8_ownMany rm_X8_ownMany).room s m ([.ref (ad 0), .int pe] : List Value).toArray below meth c s.heap [] 0 0 (MQ below (vp_Si (fun r => r = (f_X8_ownMany st pe))) ([.ref (ad 0), .int pe] : List Value).toArray s 0 0 (fun _ => False)) (F0 m 0 ls [])
  rw [← hQe]
  refine lv_iconst (v := nI 0) hx hb dX8_ownMany_0 rfl ?_
  refine lv_istore_n (lv' := [(2, .int (nI 0)), (0, .ref (ad 0)), (1, .int pe)]) hx hb dX8_ownMany_1 rfl hl (by decide) rfl (fun ls hl => ?_)
  refine lv_iconst (v := nI 0) hx hb dX8_ownMany_2 rfl ?_
  refine lv_istore_n (lv' := [(3, .int (nI 0)), (2, .int (nI 0)), (0, .ref (ad 0)), (1, .int pe)]) hx hb dX8_ownMany_3 rfl hl (by decide) rfl (fun ls hl => ?_)
  obtain ⟨T_4_1, hT_4_1⟩ : ∃ z, z = (L_X8_ownMany_4 st pe 60 0 (nI 0)) := ⟨_, rfl⟩
  have hexit_4 : ∀ (ls : Array Slot), lv_has ls 4 [(2, .int T_4_1), (0, .ref (ad 0)), (1, .int pe)] → W p l e (headSpec wsX8_ownMany rm_X8_ownMany).room s m ([.ref (ad 0), .int pe] : List Value).toArray below meth c s.heap [] 0 0 Q (F0 m 34 ls []) := by
    intro ls hl
    refine lv_iload_n hx hb dX8_ownMany_34 rfl (lv_at hl 0 rfl) ?_
    subst hQe
    have hf : (f_X8_ownMany st pe) = T_4_1 := by subst hT_4_1; rw [f_X8_ownMany]
    exact W.iret (v := T_4_1) hx hb hr (fun t ht hW => ⟨T_4_1, rfl, hf.symm, ht⟩) (fun _ h => by cases h) dX8_ownMany_35
  have loop_4 : ∀ (n_4 : Nat) (k_4 : Nat) (x2_4 : Int32), (k_4 + n_4 = 60) → L_X8_ownMany_4 st pe n_4 k_4 x2_4 = T_4_1 → ∀ (ls : Array Slot), lv_has ls 4 [(3, .int (nI k_4)), (2, .int x2_4), (0, .ref (ad 0)), (1, .int pe)] → W p l e (headSpec wsX8_ownMany rm_X8_ownMany).room s m ([.ref (ad 0), .int pe] : List Value).toArray below meth c s.heap [] 0 0 Q (F0 m 4 ls []) := by
    intro n_4
    induction n_4 with
    | zero =>
      intro k_4 x2_4 hk_4 hL_4 ls hl
      refine lv_iload_n hx hb dX8_ownMany_4 rfl (lv_at hl 0 rfl) ?_
      refine lv_bipush (v := nI 60) hx hb dX8_ownMany_5 rfl ?_
      refine mv_icmp_ge (tgt := 34) hx hb dX8_ownMany_7 (by decide) (by omega) (by decide) (fun c_4 => ?_) (fun c_4 => (by omega : False).elim)
      have e9 : T_4_1 = x2_4 := by rw [← hL_4, L_X8_ownMany_4]
      have hq := hexit_4
      rw [e9] at hq
      exact hq ls  (lv_sub hl [1, 2, 3] rfl)
    | succ n_4 ih_4 =>
      intro k_4 x2_4 hk_4 hL_4 ls hl
      refine lv_iload_n hx hb dX8_ownMany_4 rfl (lv_at hl 0 rfl) ?_
      refine lv_bipush (v := nI 60) hx hb dX8_ownMany_5 rfl ?_
      refine mv_icmp_ge (tgt := 34) hx hb dX8_ownMany_7 (by decide) (by omega) (by decide) (fun c_1 => (by omega : False).elim) (fun c_1 => ?_)
      refine lv_iload_n hx hb dX8_ownMany_10 rfl (lv_at hl 1 rfl) ?_
      refine lv_aload_n hx hb dX8_ownMany_11 rfl (lv_at hl 2 rfl) ?_
      refine va_get (D := D) (ci := 8) (v := .ref (ad 2)) (C := RX8) (T := TX8) (N := 18) hx hb hts (by decide +kernel) hown hK hP 0 rfl rfl 1 (by decide) (hts (.fieldLink RX8 13 "SummitTimeModel" "st" "[I") (by decide +kernel)) (fun _ h9 => h9) rfl dX8_ownMany_12 ?_
      refine lv_iload_n hx hb dX8_ownMany_15 rfl (lv_at hl 0 rfl) ?_
      refine mv_iald (f := st) hx hb hK hP 2 0 rfl rfl (by omega) (by decide) dX8_ownMany_16 ?_
      refine lv_iload_n hx hb dX8_ownMany_17 rfl (lv_at hl 3 rfl) ?_
      refine mv_phi (v := (if (st k_4) = pe then nI 1 else nI 0)) (pcj := 26) (ls := ls) (rest' := [.int x2_4]) ?_ (fun J_2 => ?_)
      · refine lv_iadd hx hb dX8_ownMany_26 ?_
        refine lv_istore_n (lv' := [(2, .int (x2_4 + (if (st k_4) = pe then nI 1 else nI 0))), (3, .int (nI k_4)), (0, .ref (ad 0)), (1, .int pe)]) hx hb dX8_ownMany_27 rfl hl (by decide) rfl (fun ls hl => ?_)
        refine mv_iinc (y := k_4 + 1) (lv' := [(3, .int (nI (k_4 + 1))), (2, .int (x2_4 + (if (st k_4) = pe then nI 1 else nI 0))), (0, .ref (ad 0)), (1, .int pe)]) hx hb dX8_ownMany_28 hl (k := 1) rfl (nI_p1 _) (by decide) rfl (fun ls hl => ?_)
        refine lv_goto (tgt := 4) hx hb dX8_ownMany_31 (by decide) ?_
        exact ih_4 (k_4 + 1) (x2_4 + (if (st k_4) = pe then nI 1 else nI 0)) (by omega) (by have e9 := hL_4; rw [L_X8_ownMany_4] at e9; exact e9) ls (lv_sub hl [0, 1, 2, 3] rfl)
      · refine lv_icmp_ne (tgt := 25) hx hb dX8_ownMany_18 (by decide) (fun c_3 => ?_) (fun c_3 => ?_)
        · refine lv_iconst (v := nI 0) hx hb dX8_ownMany_25 rfl ?_
          exact J_2 _ (by rw [if_neg c_3])
        · refine lv_iconst (v := nI 1) hx hb dX8_ownMany_21 rfl ?_
          refine lv_goto (tgt := 26) hx hb dX8_ownMany_22 (by decide) ?_
          exact J_2 _ (by rw [if_pos c_3])
  exact loop_4 60 0 (nI 0) (by omega) hT_4_1.symm ls (lv_sub hl [0, 1, 2, 3] rfl)
