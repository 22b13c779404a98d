def f_X7_isWithin (x0 : Int32) (x1 : Int32) (x2 : Int32) : Int32 := (if x0 < x1 then nI 0 else (if x2 < x0 then nI 0 else nI 1))
theorem f_X7_isWithin_b (x0 : Int32) (x1 : Int32) (x2 : Int32) : (f_X7_isWithin x0 x1 x2) = nI 0 ∨ (f_X7_isWithin x0 x1 x2) = nI 1 := by
  unfold f_X7_isWithin
  (repeat' split) <;> first | exact Or.inl rfl | exact Or.inr rfl | exact f_X8_in_b _ _ _
abbrev rm_X7_isWithin : Room := { frames := 0, cells := 0, slots := 0, locals := 0 }
set_option maxHeartbeats 4000000 in
set_option maxRecDepth 100000 in
theorem c_X7_isWithin (l : Launch) (x0 : Int32) (x1 : Int32) (x2 : Int32)  : Met l yX7_isWithin wsX7_isWithin rm_X7_isWithin (va_Pc [.int x0, .int x1, .int x2] (fun _ => True)) (vp_Si (fun r => r = (f_X7_isWithin x0 x1 x2))) 0 0 (fun _ => False) := by
  refine Met.ofW (cc := cX7_isWithin) (maxL := 3) (ret := (some .boolean)) (by decide) rfl ?_
  intro p e s m args below meth c s₁ B hml hv
  obtain ⟨rfl, -⟩ := hv
  have hx := B.exec
  have hb := B.bytes
  have hr := B.returns
  have hts := atoms_spec (ws := wsX7_isWithin) B.pre
  have hown : s.vm.findClass RX7 = some m.cls := findClass_of_methodNamed B.named
  have hlocks := B.notSynchronized
  have hl := lv_entry ([.int x0, .int x1, .int x2]) (n := 3) (Nat.le_of_ble_eq_true rfl)
  rw [lg_entry_eq]
  generalize (lg_sl ([.int x0, .int x1, .int x2]) ++ List.replicate (3 - (lg_sl ([.int x0, .int x1, .int x2])).length) Slot.unset).toArray = ls at hl ⊢
  have hl : lv_has ls 3 [(0, .int x0), (1, .int x1), (2, .int x2)] := hl
  refine lv_iload_n hx hb dX7_isWithin_0 rfl (lv_at hl 1 rfl) ?_
  refine lv_iload_n hx hb dX7_isWithin_1 rfl (lv_at hl 0 rfl) ?_
  refine mv_phi (v := (if x0 < x1 then nI 0 else (if x2 < x0 then nI 0 else nI 1))) (pcj := 15) (ls := ls) (rest' := []) ?_ (fun J_1 => ?_)
  · have hf : (f_X7_isWithin x0 x1 x2) = (if x0 < x1 then nI 0 else (if x2 < x0 then nI 0 else nI 1)) := by rw [f_X7_isWithin]
    exact W.zret (v := (if x0 < x1 then nI 0 else (if x2 < x0 then nI 0 else nI 1))) (ty := .boolean) hx hb hr (by (repeat' split) <;> rfl) (fun t ht hW => ⟨(if x0 < x1 then nI 0 else (if x2 < x0 then nI 0 else nI 1)), rfl, hf.symm, ht⟩) (fun _ h => by cases h) dX7_isWithin_15
  · refine lv_icmp_gt (tgt := 14) hx hb dX7_isWithin_2 (by decide) (fun c_2 => ?_) (fun c_2 => ?_)
    · refine lv_iconst (v := nI 0) hx hb dX7_isWithin_14 rfl ?_
      exact J_1 _ (by rw [if_pos c_2])
    · refine lv_iload_n hx hb dX7_isWithin_5 rfl (lv_at hl 0 rfl) ?_
      refine lv_iload_n hx hb dX7_isWithin_6 rfl (lv_at hl 2 rfl) ?_
      refine lv_icmp_gt (tgt := 14) hx hb dX7_isWithin_7 (by decide) (fun c_3 => ?_) (fun c_3 => ?_)
      · refine lv_iconst (v := nI 0) hx hb dX7_isWithin_14 rfl ?_
        exact J_1 _ (by rw [if_neg c_2, if_pos c_3])
      · refine lv_iconst (v := nI 1) hx hb dX7_isWithin_10 rfl ?_
        refine lv_goto (tgt := 15) hx hb dX7_isWithin_11 (by decide) ?_
        exact J_1 _ (by rw [if_neg c_2, if_neg c_3])
def f_X7_span (x0 : Int32) (x1 : Int32) : Int64 := (if x0 < 0 then (0 : Int64) else (if x0 ≤ (if nI 59 ≤ x1 then nI 59 else x1) then (((-1 : Int64) <<< (x0.toInt64 &&& 63)) &&& (((-1 : Int64).toUInt64 >>> (((nI 63) - (if nI 59 ≤ x1 then nI 59 else x1)).toInt64.toUInt64 &&& Int64.toUInt64 63)).toInt64)) else (0 : Int64)))
abbrev rm_X7_span : Room := { frames := 0, cells := 0, slots := 0, locals := 0 }
set_option maxHeartbeats 4000000 in
set_option maxRecDepth 100000 in
theorem c_X7_span (l : Launch) (x0 : Int32) (x1 : Int32)  : Met l yX7_span wsX7_span rm_X7_span (va_Pc [.int x0, .int x1] (fun _ => True)) (vp_Sl (fun r => r = (f_X7_span x0 x1))) 0 0 (fun _ => False) := by
  refine Met.ofW (cc := cX7_span) (maxL := 3) (ret := (some .long)) (by decide) rfl ?_
  intro p e s m args below meth c s₁ B hml hv
  obtain ⟨rfl, -⟩ := hv
  have hx := B.exec
  have hb := B.bytes
  have hr := B.returns
  have hts := atoms_spec (ws := wsX7_span) B.pre
  have hown : s.vm.findClass RX7 = some m.cls := findClass_of_methodNamed B.named
  have hlocks := B.notSynchronized
  have hl := lv_entry ([.int x0, .int x1]) (n := 3) (Nat.le_of_ble_eq_true rfl)
  rw [lg_entry_eq]
  generalize (lg_sl ([.int x0, .int x1]) ++ List.replicate (3 - (lg_sl ([.int x0, .int x1])).length) Slot.unset).toArray = ls at hl ⊢
  have hl : lv_has ls 3 [(0, .int x0), (1, .int x1)] := hl
  refine lv_iload_n hx hb dX7_span_0 rfl (lv_at hl 1 rfl) ?_
  refine lv_bipush (v := nI 59) hx hb dX7_span_1 rfl ?_
  refine mv_phi (v := (if nI 59 ≤ x1 then nI 59 else x1)) (pcj := 12) (ls := ls) (rest' := []) ?_ (fun J_3 => ?_)
  · refine lv_istore_n (lv' := [(2, .int (if nI 59 ≤ x1 then nI 59 else x1)), (0, .int x0), (1, .int x1)]) hx hb dX7_span_12 rfl hl (by decide) rfl (fun ls hl => ?_)
    refine lv_iload_n hx hb dX7_span_13 rfl (lv_at hl 1 rfl) ?_
    refine lv_if_lt (tgt := 22) hx hb dX7_span_14 (by decide) (fun c_1 => ?_) (fun c_1 => ?_)
    · refine lv_lconst (v := 0) hx hb dX7_span_22 rfl ?_
      have hf : (f_X7_span x0 x1) = (0 : Int64) := by rw [f_X7_span, if_pos c_1]
      exact W.lret (v := (0 : Int64)) hx hb hr (fun t ht hW => ⟨(0 : Int64), rfl, hf.symm, ht⟩) (fun _ h => by cases h) dX7_span_23
    · refine lv_iload_n hx hb dX7_span_17 rfl (lv_at hl 1 rfl) ?_
      refine lv_iload_n hx hb dX7_span_18 rfl (lv_at hl 0 rfl) ?_
      refine lv_icmp_le (tgt := 24) hx hb dX7_span_19 (by decide) (fun c_2 => ?_) (fun c_2 => ?_)
      · refine lv_ldc2 (v := (-1)) hx hb hown (hts (.constantLong RX7 268 (-1)) (by decide +kernel)) dX7_span_24 ?_
        refine lv_iload_n hx hb dX7_span_27 rfl (lv_at hl 1 rfl) ?_
        refine lv_lshl hx hb dX7_span_28 rfl ?_
        refine lv_ldc2 (v := (-1)) hx hb hown (hts (.constantLong RX7 268 (-1)) (by decide +kernel)) dX7_span_29 ?_
        refine lv_bipush (v := nI 63) hx hb dX7_span_32 rfl ?_
        refine lv_iload_n hx hb dX7_span_34 rfl (lv_at hl 0 rfl) ?_
        refine lv_isub hx hb dX7_span_35 ?_
        refine lv_lushr hx hb dX7_span_36 rfl ?_
        refine lv_land hx hb dX7_span_37 ?_
        have hf : (f_X7_span x0 x1) = (((-1 : Int64) <<< (x0.toInt64 &&& 63)) &&& (((-1 : Int64).toUInt64 >>> (((nI 63) - (if nI 59 ≤ x1 then nI 59 else x1)).toInt64.toUInt64 &&& Int64.toUInt64 63)).toInt64)) := by rw [f_X7_span, if_neg c_1, if_pos c_2]
        exact W.lret (v := (((-1 : Int64) <<< (x0.toInt64 &&& 63)) &&& (((-1 : Int64).toUInt64 >>> (((nI 63) - (if nI 59 ≤ x1 then nI 59 else x1)).toInt64.toUInt64 &&& Int64.toUInt64 63)).toInt64))) hx hb hr (fun t ht hW => ⟨(((-1 : Int64) <<< (x0.toInt64 &&& 63)) &&& (((-1 : Int64).toUInt64 >>> (((nI 63) - (if nI 59 ≤ x1 then nI 59 else x1)).toInt64.toUInt64 &&& Int64.toUInt64 63)).toInt64)), rfl, hf.symm, ht⟩) (fun _ h => by cases h) dX7_span_38
      · refine lv_lconst (v := 0) hx hb dX7_span_22 rfl ?_
        have hf : (f_X7_span x0 x1) = (0 : Int64) := by rw [f_X7_span, if_neg c_1, if_neg c_2]
        exact W.lret (v := (0 : Int64)) hx hb hr (fun t ht hW => ⟨(0 : Int64), rfl, hf.symm, ht⟩) (fun _ h => by cases h) dX7_span_23
  · refine lv_icmp_ge (tgt := 10) hx hb dX7_span_3 (by decide) (fun c_4 => ?_) (fun c_4 => ?_)
    · refine lv_bipush (v := nI 59) hx hb dX7_span_10 rfl ?_
      exact J_3 _ (by rw [if_pos c_4])
    · refine lv_iload_n hx hb dX7_span_6 rfl (lv_at hl 1 rfl) ?_
      refine lv_goto (tgt := 12) hx hb dX7_span_7 (by decide) ?_
      exact J_3 _ (by rw [if_neg c_4])
def L_X7_eachOther_8 (x0 : Int64) : Nat → Nat → Int32 → Int64 → Int32 × Int64
  | 0, _, x4_8, x2_8 => (x4_8, x2_8)
  | n_8 + 1, k_8, x4_8, x2_8 => (if (lg_cmp (x0 &&& ((1 : Int64) <<< ((nI k_8).toInt64 &&& 63))) (0 : Int64)) = 0 then (L_X7_eachOther_8 x0 n_8 (k_8 + 1) x4_8 x2_8) else (if x4_8 = 0 then (L_X7_eachOther_8 x0 n_8 (k_8 + 1) (nI 1) x2_8) else (L_X7_eachOther_8 x0 n_8 (k_8 + 1) (nI 0) (x2_8 ||| ((1 : Int64) <<< ((nI k_8).toInt64 &&& 63))))))
def f_X7_eachOther (x0 : Int64) : Int64 := (L_X7_eachOther_8 x0 60 0 (nI 0) (0 : Int64)).2
abbrev rm_X7_eachOther : Room := { frames := 0, cells := 0, slots := 0, locals := 0 }
set_option maxHeartbeats 4000000 in
set_option maxRecDepth 100000 in
theorem c_X7_eachOther (l : Launch) (x0 : Int64)  : Met l yX7_eachOther wsX7_eachOther rm_X7_eachOther (va_Pc [.long x0] (fun _ => True)) (vp_Sl (fun r => r = (f_X7_eachOther x0))) 0 0 (fun _ => False) := by
  refine Met.ofW (cc := cX7_eachOther) (maxL := 8) (ret := (some .long)) (by decide) rfl ?_
  intro p e s m args below meth c s₁ B hml hv
  obtain ⟨rfl, -⟩ := hv
  have hx := B.exec
  have hb := B.bytes
  have hr := B.returns
  have hts := atoms_spec (ws := wsX7_eachOther) B.pre
  have hown : s.vm.findClass RX7 = some m.cls := findClass_of_methodNamed B.named
  have hlocks := B.notSynchronized
  have hl := lv_entry ([.long x0]) (n := 8) (Nat.le_of_ble_eq_true rfl)
  rw [lg_entry_eq]
  generalize (lg_sl ([.long x0]) ++ List.replicate (8 - (lg_sl ([.long x0])).length) Slot.unset).toArray = ls at hl ⊢
  have hl : lv_has ls 8 [(0, .long x0)] := hl
  obtain ⟨Q, hQe⟩ : ∃ Q, Q = MQ below (vp_Sl (fun r => r = (f_X7_eachOther x0))) ([.long x0] : List Value).toArray s 0 0 (fun _ => False) := ⟨_, rfl⟩
  show W p l e (headSpec wsX7_eachOther rm_X7_eachOther).room s m ([.long x0] : List Value).toArray below meth c s.heap [] 0 0 (MQ below (vp_Sl (fun r => r = (f_X7_eachOther x0))) ([.long x0] : List Value).toArray s 0 0 (fun _ => False)) (F0 m 0 ls [])
  rw [← hQe]
  refine lv_lconst (v := 0) hx hb dX7_eachOther_0 rfl ?_
  refine lv_lstore_n (lv' := [(2, .long (0 : Int64)), (0, .long x0)]) hx hb dX7_eachOther_1 rfl hl (by decide) rfl (fun ls hl => ?_)
  refine lv_iconst (v := nI 0) hx hb dX7_eachOther_2 rfl ?_
  refine lv_istore (lv' := [(4, .int (nI 0)), (2, .long (0 : Int64)), (0, .long x0)]) hx hb dX7_eachOther_3 hl (by decide) rfl (fun ls hl => ?_)
  refine lv_iconst (v := nI 0) hx hb dX7_eachOther_5 rfl ?_
  refine lv_istore (lv' := [(5, .int (nI 0)), (4, .int (nI 0)), (2, .long (0 : Int64)), (0, .long x0)]) hx hb dX7_eachOther_6 hl (by decide) rfl (fun ls hl => ?_)
  obtain ⟨T_8_1, hT_8_1⟩ : ∃ z, z = (L_X7_eachOther_8 x0 60 0 (nI 0) (0 : Int64)) := ⟨_, rfl⟩
  have hexit_8 : ∀ (ls : Array Slot), lv_has ls 8 [(4, .int T_8_1.1), (2, .long T_8_1.2), (0, .long x0)] → W p l e (headSpec wsX7_eachOther rm_X7_eachOther).room s m ([.long x0] : List Value).toArray below meth c s.heap [] 0 0 Q (F0 m 58 ls []) := by
    intro ls hl
    refine lv_lload_n hx hb dX7_eachOther_58 rfl (lv_at hl 1 rfl) ?_
    subst hQe
    have hf : (f_X7_eachOther x0) = T_8_1.2 := by rw [f_X7_eachOther]; (try rw [← hT_8_1]); first | done | rfl
    exact W.lret (v := T_8_1.2) hx hb hr (fun t ht hW => ⟨T_8_1.2, rfl, hf.symm, ht⟩) (fun _ h => by cases h) dX7_eachOther_59
  have loop_8 : ∀ (n_8 : Nat) (k_8 : Nat) (x4_8 : Int32) (x2_8 : Int64), (k_8 + n_8 = 60) → L_X7_eachOther_8 x0 n_8 k_8 x4_8 x2_8 = T_8_1 → ∀ (ls : Array Slot), lv_has ls 8 [(5, .int (nI k_8)), (4, .int x4_8), (2, .long x2_8), (0, .long x0)] → W p l e (headSpec wsX7_eachOther rm_X7_eachOther).room s m ([.long x0] : List Value).toArray below meth c s.heap [] 0 0 Q (F0 m 8 ls []) := by
    intro n_8
    induction n_8 with
    | zero =>
      intro k_8 x4_8 x2_8 hk_8 hL_8 ls hl
      refine lv_iload hx hb dX7_eachOther_8 (lv_at hl 0 rfl) ?_
      refine lv_bipush (v := nI 59) hx hb dX7_eachOther_10 rfl ?_
      refine mv_icmp_gt (tgt := 58) hx hb dX7_eachOther_12 (by decide) (by omega) (by decide) (fun c_8 => ?_) (fun c_8 => (by omega : False).elim)
      have e9 : T_8_1 = (x4_8, x2_8) := by rw [← hL_8, L_X7_eachOther_8]
      have hq := hexit_8
      rw [e9] at hq
      exact hq ls  (lv_sub hl [1, 2, 3] rfl)
    | succ n_8 ih_8 =>
      intro k_8 x4_8 x2_8 hk_8 hL_8 ls hl
      refine lv_iload hx hb dX7_eachOther_8 (lv_at hl 0 rfl) ?_
      refine lv_bipush (v := nI 59) hx hb dX7_eachOther_10 rfl ?_
      refine mv_icmp_gt (tgt := 58) hx hb dX7_eachOther_12 (by decide) (by omega) (by decide) (fun c_1 => (by omega : False).elim) (fun c_1 => ?_)
      refine lv_lconst (v := 1) hx hb dX7_eachOther_15 rfl ?_
      refine lv_iload hx hb dX7_eachOther_16 (lv_at hl 0 rfl) ?_
      refine lv_lshl hx hb dX7_eachOther_18 rfl ?_
      refine lv_lstore (lv' := [(6, .long ((1 : Int64) <<< ((nI k_8).toInt64 &&& 63))), (5, .int (nI k_8)), (4, .int x4_8), (2, .long x2_8), (0, .long x0)]) hx hb dX7_eachOther_19 hl (by decide) rfl (fun ls hl => ?_)
      refine lv_lload_n hx hb dX7_eachOther_21 rfl (lv_at hl 4 rfl) ?_
      refine lv_lload hx hb dX7_eachOther_22 (lv_at hl 0 rfl) ?_
      refine lv_land hx hb dX7_eachOther_24 ?_
      refine lv_lconst (v := 0) hx hb dX7_eachOther_25 rfl ?_
      refine W.lcmp hx hb dX7_eachOther_26 ?_
      refine lv_if_eq (tgt := 52) hx hb dX7_eachOther_27 (by decide) (fun c_2 => ?_) (fun c_2 => ?_)
      · refine mv_iinc (y := k_8 + 1) (lv' := [(5, .int (nI (k_8 + 1))), (6, .long ((1 : Int64) <<< ((nI k_8).toInt64 &&& 63))), (4, .int x4_8), (2, .long x2_8), (0, .long x0)]) hx hb dX7_eachOther_52 hl (k := 1) rfl (nI_p1 _) (by decide) rfl (fun ls hl => ?_)
        refine lv_goto (tgt := 8) hx hb dX7_eachOther_55 (by decide) ?_
        exact ih_8 (k_8 + 1) x4_8 x2_8 (by omega) (by have e9 := hL_8; rw [L_X7_eachOther_8, if_pos c_2] at e9; exact e9) ls (lv_sub hl [0, 2, 3, 4] rfl)
      · refine lv_iload hx hb dX7_eachOther_30 (lv_at hl 2 rfl) ?_
        refine lv_if_eq (tgt := 40) hx hb dX7_eachOther_32 (by decide) (fun c_3 => ?_) (fun c_3 => ?_)
        · refine lv_iload hx hb dX7_eachOther_40 (lv_at hl 2 rfl) ?_
          refine mv_phi (v := nI 1) (pcj := 50) (ls := ls) (rest' := []) ?_ (fun J_4 => ?_)
          · refine lv_istore (lv' := [(4, .int (nI 1)), (6, .long ((1 : Int64) <<< ((nI k_8).toInt64 &&& 63))), (5, .int (nI k_8)), (2, .long x2_8), (0, .long x0)]) hx hb dX7_eachOther_50 hl (by decide) rfl (fun ls hl => ?_)
            refine mv_iinc (y := k_8 + 1) (lv' := [(5, .int (nI (k_8 + 1))), (4, .int (nI 1)), (6, .long ((1 : Int64) <<< ((nI k_8).toInt64 &&& 63))), (2, .long x2_8), (0, .long x0)]) hx hb dX7_eachOther_52 hl (k := 2) rfl (nI_p1 _) (by decide) rfl (fun ls hl => ?_)
            refine lv_goto (tgt := 8) hx hb dX7_eachOther_55 (by decide) ?_
            exact ih_8 (k_8 + 1) (nI 1) x2_8 (by omega) (by have e9 := hL_8; rw [L_X7_eachOther_8, if_neg c_2, if_pos c_3] at e9; exact e9) ls (lv_sub hl [0, 1, 3, 4] rfl)
          · refine lv_if_ne (tgt := 49) hx hb dX7_eachOther_42 (by decide) (fun c_5 => absurd c_3 c_5) (fun c_5 => ?_)
            refine lv_iconst (v := nI 1) hx hb dX7_eachOther_45 rfl ?_
            refine lv_goto (tgt := 50) hx hb dX7_eachOther_46 (by decide) ?_
            exact J_4 _ rfl
        · refine lv_lload_n hx hb dX7_eachOther_35 rfl (lv_at hl 3 rfl) ?_
          refine lv_lload hx hb dX7_eachOther_36 (lv_at hl 0 rfl) ?_
          refine lv_lor hx hb dX7_eachOther_38 ?_
          refine lv_lstore_n (lv' := [(2, .long (x2_8 ||| ((1 : Int64) <<< ((nI k_8).toInt64 &&& 63)))), (6, .long ((1 : Int64) <<< ((nI k_8).toInt64 &&& 63))), (5, .int (nI k_8)), (4, .int x4_8), (0, .long x0)]) hx hb dX7_eachOther_39 rfl hl (by decide) rfl (fun ls hl => ?_)
          refine lv_iload hx hb dX7_eachOther_40 (lv_at hl 3 rfl) ?_
          refine mv_phi (v := nI 0) (pcj := 50) (ls := ls) (rest' := []) ?_ (fun J_6 => ?_)
          · refine lv_istore (lv' := [(4, .int (nI 0)), (2, .long (x2_8 ||| ((1 : Int64) <<< ((nI k_8).toInt64 &&& 63)))), (6, .long ((1 : Int64) <<< ((nI k_8).toInt64 &&& 63))), (5, .int (nI k_8)), (0, .long x0)]) hx hb dX7_eachOther_50 hl (by decide) rfl (fun ls hl => ?_)
            refine mv_iinc (y := k_8 + 1) (lv' := [(5, .int (nI (k_8 + 1))), (4, .int (nI 0)), (2, .long (x2_8 ||| ((1 : Int64) <<< ((nI k_8).toInt64 &&& 63)))), (6, .long ((1 : Int64) <<< ((nI k_8).toInt64 &&& 63))), (0, .long x0)]) hx hb dX7_eachOther_52 hl (k := 3) rfl (nI_p1 _) (by decide) rfl (fun ls hl => ?_)
            refine lv_goto (tgt := 8) hx hb dX7_eachOther_55 (by decide) ?_
            exact ih_8 (k_8 + 1) (nI 0) (x2_8 ||| ((1 : Int64) <<< ((nI k_8).toInt64 &&& 63))) (by omega) (by have e9 := hL_8; rw [L_X7_eachOther_8, if_neg c_2, if_neg c_3] at e9; exact e9) ls (lv_sub hl [0, 1, 2, 4] rfl)
          · refine lv_if_ne (tgt := 49) hx hb dX7_eachOther_42 (by decide) (fun c_7 => ?_) (fun c_7 => absurd c_7 c_3)
            refine lv_iconst (v := nI 0) hx hb dX7_eachOther_49 rfl ?_
            exact J_6 _ rfl
  exact loop_8 60 0 (nI 0) (0 : Int64) (by omega) hT_8_1.symm ls (lv_sub hl [0, 1, 2, 3] rfl)
def L_X7_choose_4 (al : Nat) : Nat → Nat → Int32 → Int32
  | 0, _, x2_4 => x2_4
  | n_4 + 1, k_4, x2_4 => (L_X7_choose_4 al n_4 (k_4 + 1) ((x2_4 * (((nI al) - (nI k_4)) + (nI 1))) / (nI k_4)))
def f_X7_choose (al : Nat) (so : Nat) : Int32 := (L_X7_choose_4 al ((so + 1) - 1) 1 (nI 1))
abbrev rm_X7_choose : Room := { frames := 0, cells := 0, slots := 0, locals := 0 }
set_option maxHeartbeats 4000000 in
set_option maxRecDepth 100000 in
theorem c_X7_choose (l : Launch) (al : Nat) (so : Nat) (hal : al ≤ 6) (hso : so ≤ 6) : Met l yX7_choose wsX7_choose rm_X7_choose (va_Pc [.int (nI al), .int (nI so)] (fun _ => True)) (vp_Si (fun r => r = (f_X7_choose al so))) 0 0 (fun _ => False) := by
  refine Met.ofW (cc := cX7_choose) (maxL := 4) (ret := (some .int)) (by decide) rfl ?_
  intro p e s m args below meth c s₁ B hml hv
  obtain ⟨rfl, -⟩ := hv
  have hx := B.exec
  have hb := B.bytes
  have hr := B.returns
  have hts := atoms_spec (ws := wsX7_choose) B.pre
  have hown : s.vm.findClass RX7 = some m.cls := findClass_of_methodNamed B.named
  have hlocks := B.notSynchronized
  have hl := lv_entry ([.int (nI al), .int (nI so)]) (n := 4) (Nat.le_of_ble_eq_true rfl)
  rw [lg_entry_eq]
  generalize (lg_sl ([.int (nI al), .int (nI so)]) ++ List.replicate (4 - (lg_sl ([.int (nI al), .int (nI so)])).length) Slot.unset).toArray = ls at hl ⊢
  have hl : lv_has ls 4 [(0, .int (nI al)), (1, .int (nI so))] := hl
  obtain ⟨Q, hQe⟩ : ∃ Q, Q = MQ below (vp_Si (fun r => r = (f_X7_choose al so))) ([.int (nI al), .int (nI so)] : List Value).toArray s 0 0 (fun _ => False) := ⟨_, rfl⟩
  show W p l e (headSpec wsX7_choose rm_X7_choose).room s m ([.int (nI al), .int (nI so)] : List Value).toArray below meth c s.heap [] 0 0 (MQ below (vp_Si (fun r => r = (f_X7_choose al so))) ([.int (nI al), .int (nI so)] : List Value).toArray s 0 0 (fun _ => False)) (F0 m 0 ls [])
  rw [← hQe]
  refine lv_iconst (v := nI 1) hx hb dX7_choose_0 rfl ?_
  refine lv_istore_n (lv' := [(2, .int (nI 1)), (0, .int (nI al)), (1, .int (nI so))]) hx hb dX7_choose_1 rfl hl (by decide) rfl (fun ls hl => ?_)
  refine lv_iconst (v := nI 1) hx hb dX7_choose_2 rfl ?_
  refine lv_istore_n (lv' := [(3, .int (nI 1)), (2, .int (nI 1)), (0, .int (nI al)), (1, .int (nI so))]) hx hb dX7_choose_3 rfl hl (by decide) rfl (fun ls hl => ?_)
  obtain ⟨T_4_1, hT_4_1⟩ : ∃ z, z = (L_X7_choose_4 al ((so + 1) - 1) 1 (nI 1)) := ⟨_, rfl⟩
  have hexit_4 : ∀ (ls : Array Slot), lv_has ls 4 [(2, .int T_4_1), (0, .int (nI al)), (1, .int (nI so))] → W p l e (headSpec wsX7_choose rm_X7_choose).room s m ([.int (nI al), .int (nI so)] : List Value).toArray below meth c s.heap [] 0 0 Q (F0 m 25 ls []) := by
    intro ls hl
    refine lv_iload_n hx hb dX7_choose_25 rfl (lv_at hl 0 rfl) ?_
    subst hQe
    have hf : (f_X7_choose al so) = T_4_1 := by rw [f_X7_choose]; (try rw [← hT_4_1]); first | done | rfl
    exact W.iret (v := T_4_1) hx hb hr (fun t ht hW => ⟨T_4_1, rfl, hf.symm, ht⟩) (fun _ h => by cases h) dX7_choose_26
  have loop_4 : ∀ (n_4 : Nat) (k_4 : Nat) (x2_4 : Int32), (k_4 + n_4 = (so + 1)) → (1 ≤ k_4) → L_X7_choose_4 al n_4 k_4 x2_4 = T_4_1 → ∀ (ls : Array Slot), lv_has ls 4 [(3, .int (nI k_4)), (2, .int x2_4), (0, .int (nI al)), (1, .int (nI so))] → W p l e (headSpec wsX7_choose rm_X7_choose).room s m ([.int (nI al), .int (nI so)] : List Value).toArray below meth c s.heap [] 0 0 Q (F0 m 4 ls []) := by
    intro n_4
    induction n_4 with
    | zero =>
      intro k_4 x2_4 hk_4 h1 hL_4 ls hl
      refine lv_iload_n hx hb dX7_choose_4 rfl (lv_at hl 0 rfl) ?_
      refine lv_iload_n hx hb dX7_choose_5 rfl (lv_at hl 3 rfl) ?_
      refine mv_icmp_gt (tgt := 25) hx hb dX7_choose_6 (by decide) (by omega) (by omega) (fun c_2 => ?_) (fun c_2 => (by omega : False).elim)
      have e9 : T_4_1 = x2_4 := by rw [← hL_4, L_X7_choose_4]
      have hq := hexit_4
      rw [e9] at hq
      exact hq ls  (lv_sub hl [1, 2, 3] rfl)
    | succ n_4 ih_4 =>
      intro k_4 x2_4 hk_4 h1 hL_4 ls hl
      refine lv_iload_n hx hb dX7_choose_4 rfl (lv_at hl 0 rfl) ?_
      refine lv_iload_n hx hb dX7_choose_5 rfl (lv_at hl 3 rfl) ?_
      refine mv_icmp_gt (tgt := 25) hx hb dX7_choose_6 (by decide) (by omega) (by omega) (fun c_1 => (by omega : False).elim) (fun c_1 => ?_)
      refine lv_iload_n hx hb dX7_choose_9 rfl (lv_at hl 1 rfl) ?_
      refine lv_iload_n hx hb dX7_choose_10 rfl (lv_at hl 2 rfl) ?_
      refine lv_iload_n hx hb dX7_choose_11 rfl (lv_at hl 0 rfl) ?_
      refine lv_isub hx hb dX7_choose_12 ?_
      refine lv_iconst (v := nI 1) hx hb dX7_choose_13 rfl ?_
      refine lv_iadd hx hb dX7_choose_14 ?_
      refine lv_imul hx hb dX7_choose_15 ?_
      refine lv_iload_n hx hb dX7_choose_16 rfl (lv_at hl 0 rfl) ?_
      refine lv_idiv hx hb dX7_choose_17 (nI_ne0 (by omega) (by omega)) ?_
      refine lv_istore_n (lv' := [(2, .int ((x2_4 * (((nI al) - (nI k_4)) + (nI 1))) / (nI k_4))), (3, .int (nI k_4)), (0, .int (nI al)), (1, .int (nI so))]) hx hb dX7_choose_18 rfl hl (by decide) rfl (fun ls hl => ?_)
      refine mv_iinc (y := k_4 + 1) (lv' := [(3, .int (nI (k_4 + 1))), (2, .int ((x2_4 * (((nI al) - (nI k_4)) + (nI 1))) / (nI k_4))), (0, .int (nI al)), (1, .int (nI so))]) hx hb dX7_choose_19 hl (k := 1) rfl (nI_p1 _) (by decide) rfl (fun ls hl => ?_)
      refine lv_goto (tgt := 4) hx hb dX7_choose_22 (by decide) ?_
      exact ih_4 (k_4 + 1) ((x2_4 * (((nI al) - (nI k_4)) + (nI 1))) / (nI k_4)) (by omega) (by omega) (by have e9 := hL_4; rw [L_X7_choose_4] at e9; exact e9) ls (lv_sub hl [0, 1, 2, 3] rfl)
  exact loop_4 ((so + 1) - 1) 1 (nI 1) (by omega) (by omega) hT_4_1.symm ls (lv_sub hl [0, 1, 2, 3] rfl)
def L_X7_power_4 (ba : Int32) : Nat → Nat → Int32 → Int32
  | 0, _, x2_4 => x2_4
  | n_4 + 1, k_4, x2_4 => (L_X7_power_4 ba n_4 (k_4 + 1) (x2_4 * ba))
def f_X7_power (ba : Int32) (ti : Nat) : Int32 := (L_X7_power_4 ba ti 0 (nI 1))
abbrev rm_X7_power : Room := { frames := 0, cells := 0, slots := 0, locals := 0 }
set_option maxHeartbeats 4000000 in
set_option maxRecDepth 100000 in
theorem c_X7_power (l : Launch) (ba : Int32) (ti : Nat) (hti : ti ≤ 6) : Met l yX7_power wsX7_power rm_X7_power (va_Pc [.int ba, .int (nI ti)] (fun _ => True)) (vp_Si (fun r => r = (f_X7_power ba ti))) 0 0 (fun _ => False) := by
  refine Met.ofW (cc := cX7_power) (maxL := 4) (ret := (some .int)) (by decide) rfl ?_
  intro p e s m args below meth c s₁ B hml hv
  obtain ⟨rfl, -⟩ := hv
  have hx := B.exec
  have hb := B.bytes
  have hr := B.returns
  have hts := atoms_spec (ws := wsX7_power) B.pre
  have hown : s.vm.findClass RX7 = some m.cls := findClass_of_methodNamed B.named
  have hlocks := B.notSynchronized
  have hl := lv_entry ([.int ba, .int (nI ti)]) (n := 4) (Nat.le_of_ble_eq_true rfl)
  rw [lg_entry_eq]
  generalize (lg_sl ([.int ba, .int (nI ti)]) ++ List.replicate (4 - (lg_sl ([.int ba, .int (nI ti)])).length) Slot.unset).toArray = ls at hl ⊢
  have hl : lv_has ls 4 [(0, .int ba), (1, .int (nI ti))] := hl
  obtain ⟨Q, hQe⟩ : ∃ Q, Q = MQ below (vp_Si (fun r => r = (f_X7_power ba ti))) ([.int ba, .int (nI ti)] : List Value).toArray s 0 0 (fun _ => False) := ⟨_, rfl⟩
  show W p l e (headSpec wsX7_power rm_X7_power).room s m ([.int ba, .int (nI ti)] : List Value).toArray below meth c s.heap [] 0 0 (MQ below (vp_Si (fun r => r = (f_X7_power ba ti))) ([.int ba, .int (nI ti)] : List Value).toArray s 0 0 (fun _ => False)) (F0 m 0 ls [])
  rw [← hQe]
  refine lv_iconst (v := nI 1) hx hb dX7_power_0 rfl ?_
  refine lv_istore_n (lv' := [(2, .int (nI 1)), (0, .int ba), (1, .int (nI ti))]) hx hb dX7_power_1 rfl hl (by decide) rfl (fun ls hl => ?_)
  refine lv_iconst (v := nI 0) hx hb dX7_power_2 rfl ?_
  refine lv_istore_n (lv' := [(3, .int (nI 0)), (2, .int (nI 1)), (0, .int ba), (1, .int (nI ti))]) hx hb dX7_power_3 rfl hl (by decide) rfl (fun ls hl => ?_)
  obtain ⟨T_4_1, hT_4_1⟩ : ∃ z, z = (L_X7_power_4 ba ti 0 (nI 1)) := ⟨_, rfl⟩
  have hexit_4 : ∀ (ls : Array Slot), lv_has ls 4 [(2, .int T_4_1), (0, .int ba), (1, .int (nI ti))] → W p l e (headSpec wsX7_power rm_X7_power).room s m ([.int ba, .int (nI ti)] : List Value).toArray below meth c s.heap [] 0 0 Q (F0 m 19 ls []) := by
    intro ls hl
    refine lv_iload_n hx hb dX7_power_19 rfl (lv_at hl 0 rfl) ?_
    subst hQe
    have hf : (f_X7_power ba ti) = T_4_1 := by rw [f_X7_power]; (try rw [← hT_4_1]); first | done | rfl
    exact W.iret (v := T_4_1) hx hb hr (fun t ht hW => ⟨T_4_1, rfl, hf.symm, ht⟩) (fun _ h => by cases h) dX7_power_20
  have loop_4 : ∀ (n_4 : Nat) (k_4 : Nat) (x2_4 : Int32), (k_4 + n_4 = ti) → L_X7_power_4 ba n_4 k_4 x2_4 = T_4_1 → ∀ (ls : Array Slot), lv_has ls 4 [(3, .int (nI k_4)), (2, .int x2_4), (0, .int ba), (1, .int (nI ti))] → W p l e (headSpec wsX7_power rm_X7_power).room s m ([.int ba, .int (nI ti)] : List Value).toArray below meth c s.heap [] 0 0 Q (F0 m 4 ls []) := by
    intro n_4
    induction n_4 with
    | zero =>
      intro k_4 x2_4 hk_4 hL_4 ls hl
      refine lv_iload_n hx hb dX7_power_4 rfl (lv_at hl 0 rfl) ?_
      refine lv_iload_n hx hb dX7_power_5 rfl (lv_at hl 3 rfl) ?_
      refine mv_icmp_ge (tgt := 19) hx hb dX7_power_6 (by decide) (by omega) (by omega) (fun c_2 => ?_) (fun c_2 => (by omega : False).elim)
      have e9 : T_4_1 = x2_4 := by rw [← hL_4, L_X7_power_4]
      have hq := hexit_4
      rw [e9] at hq
      exact hq ls  (lv_sub hl [1, 2, 3] rfl)
    | succ n_4 ih_4 =>
      intro k_4 x2_4 hk_4 hL_4 ls hl
      refine lv_iload_n hx hb dX7_power_4 rfl (lv_at hl 0 rfl) ?_
      refine lv_iload_n hx hb dX7_power_5 rfl (lv_at hl 3 rfl) ?_
      refine mv_icmp_ge (tgt := 19) hx hb dX7_power_6 (by decide) (by omega) (by omega) (fun c_1 => (by omega : False).elim) (fun c_1 => ?_)
      refine lv_iload_n hx hb dX7_power_9 rfl (lv_at hl 1 rfl) ?_
      refine lv_iload_n hx hb dX7_power_10 rfl (lv_at hl 2 rfl) ?_
      refine lv_imul hx hb dX7_power_11 ?_
      refine lv_istore_n (lv' := [(2, .int (x2_4 * ba)), (3, .int (nI k_4)), (0, .int ba), (1, .int (nI ti))]) hx hb dX7_power_12 rfl hl (by decide) rfl (fun ls hl => ?_)
      refine mv_iinc (y := k_4 + 1) (lv' := [(3, .int (nI (k_4 + 1))), (2, .int (x2_4 * ba)), (0, .int ba), (1, .int (nI ti))]) hx hb dX7_power_13 hl (k := 1) rfl (nI_p1 _) (by decide) rfl (fun ls hl => ?_)
      refine lv_goto (tgt := 4) hx hb dX7_power_16 (by decide) ?_
      exact ih_4 (k_4 + 1) (x2_4 * ba) (by omega) (by have e9 := hL_4; rw [L_X7_power_4] at e9; exact e9) ls (lv_sub hl [0, 1, 2, 3] rfl)
  exact loop_4 ti 0 (nI 1) (by omega) hT_4_1.symm ls (lv_sub hl [0, 1, 2, 3] rfl)
def L_X7_waysClear_5 (sto : Nat) (qq : Int32) : Nat → Nat → Int32 → Int32
  | 0, _, x3_5 => x3_5
  | n_5 + 1, k_5, x3_5 => (L_X7_waysClear_5 sto qq n_5 (k_5 + 1) (x3_5 + (((f_X7_choose sto k_5) * (f_X7_power ((nI 10) - qq) k_5)) * (f_X7_power qq (sto - k_5)))))
def f_X7_waysClear (sto : Nat) (kk : Nat) (qq : Int32) : Int32 := (L_X7_waysClear_5 sto qq (sto + 1 - kk) kk (nI 0))
abbrev rm_X7_waysClear : Room := { frames := 1, cells := 0, slots := 0, locals := 23 }
set_option maxHeartbeats 4000000 in
set_option maxRecDepth 100000 in
theorem c_X7_waysClear (l : Launch) (sto : Nat) (kk : Nat) (qq : Int32) (hsto : sto ≤ 6) (hkk : kk ≤ 6) : Met l yX7_waysClear wsX7_waysClear rm_X7_waysClear (va_Pc [.int (nI sto), .int (nI kk), .int qq] (fun _ => True)) (vp_Si (fun r => r = (f_X7_waysClear sto kk qq))) 0 0 (fun _ => False) := by
  refine Met.ofW (cc := cX7_waysClear) (maxL := 5) (ret := (some .int)) (by decide) rfl ?_
  intro p e s m args below meth c s₁ B hml hv
  obtain ⟨rfl, -⟩ := hv
  have hx := B.exec
  have hb := B.bytes
  have hr := B.returns
  have hts := atoms_spec (ws := wsX7_waysClear) B.pre
  have hown : s.vm.findClass RX7 = some m.cls := findClass_of_methodNamed B.named
  have hlocks := B.notSynchronized
  have hl := lv_entry ([.int (nI sto), .int (nI kk), .int qq]) (n := 5) (Nat.le_of_ble_eq_true rfl)
  rw [lg_entry_eq]
  generalize (lg_sl ([.int (nI sto), .int (nI kk), .int qq]) ++ List.replicate (5 - (lg_sl ([.int (nI sto), .int (nI kk), .int qq])).length) Slot.unset).toArray = ls at hl ⊢
  have hl : lv_has ls 5 [(0, .int (nI sto)), (1, .int (nI kk)), (2, .int qq)] := hl
  obtain ⟨Q, hQe⟩ : ∃ Q, Q = MQ below (vp_Si (fun r => r = (f_X7_waysClear sto kk qq))) ([.int (nI sto), .int (nI kk), .int qq] : List Value).toArray s 0 0 (fun _ => False) := ⟨_, rfl⟩
  show W p l e (headSpec wsX7_waysClear rm_X7_waysClear).room s m ([.int (nI sto), .int (nI kk), .int qq] : List Value).toArray below meth c s.heap [] 0 0 (MQ below (vp_Si (fun r => r = (f_X7_waysClear sto kk qq))) ([.int (nI sto), .int (nI kk), .int qq] : List Value).toArray s 0 0 (fun _ => False)) (F0 m 0 ls [])
  rw [← hQe]
  refine lv_iconst (v := nI 0) hx hb dX7_waysClear_0 rfl ?_
  refine lv_istore_n (lv' := [(3, .int (nI 0)), (0, .int (nI sto)), (1, .int (nI kk)), (2, .int qq)]) hx hb dX7_waysClear_1 rfl hl (by decide) rfl (fun ls hl => ?_)
  refine lv_iload_n hx hb dX7_waysClear_2 rfl (lv_at hl 2 rfl) ?_
  refine lv_istore (lv' := [(4, .int (nI kk)), (3, .int (nI 0)), (0, .int (nI sto)), (1, .int (nI kk)), (2, .int qq)]) hx hb dX7_waysClear_3 hl (by decide) rfl (fun ls hl => ?_)
  obtain ⟨T_5_1, hT_5_1⟩ : ∃ z, z = (L_X7_waysClear_5 sto qq (sto + 1 - kk) kk (nI 0)) := ⟨_, rfl⟩
  have hexit_5 : ∀ (ls : Array Slot), lv_has ls 5 [(3, .int T_5_1), (0, .int (nI sto)), (1, .int (nI kk)), (2, .int qq)] → W p l e (headSpec wsX7_waysClear rm_X7_waysClear).room s m ([.int (nI sto), .int (nI kk), .int qq] : List Value).toArray below meth c s.heap [] 0 0 Q (F0 m 45 ls []) := by
    intro ls hl
    refine lv_iload_n hx hb dX7_waysClear_45 rfl (lv_at hl 0 rfl) ?_
    subst hQe
    have hf : (f_X7_waysClear sto kk qq) = T_5_1 := by rw [f_X7_waysClear]; (try rw [← hT_5_1]); first | done | rfl
    exact W.iret (v := T_5_1) hx hb hr (fun t ht hW => ⟨T_5_1, rfl, hf.symm, ht⟩) (fun _ h => by cases h) dX7_waysClear_46
  have loop_5 : ∀ (n_5 : Nat) (k_5 : Nat) (x3_5 : Int32), ((k_5 + n_5 = sto + 1 ∨ (n_5 = 0 ∧ sto < k_5))) → (k_5 ≤ 7) → L_X7_waysClear_5 sto qq n_5 k_5 x3_5 = T_5_1 → ∀ (ls : Array Slot), lv_has ls 5 [(4, .int (nI k_5)), (3, .int x3_5), (0, .int (nI sto)), (1, .int (nI kk)), (2, .int qq)] → W p l e (headSpec wsX7_waysClear rm_X7_waysClear).room s m ([.int (nI sto), .int (nI kk), .int qq] : List Value).toArray below meth c s.heap [] 0 0 Q (F0 m 5 ls []) := by
    intro n_5
    induction n_5 with
    | zero =>
      intro k_5 x3_5 hk5 hk6 hL_5 ls hl
      refine lv_iload hx hb dX7_waysClear_5 (lv_at hl 0 rfl) ?_
      refine lv_iload_n hx hb dX7_waysClear_7 rfl (lv_at hl 2 rfl) ?_
      refine mv_icmp_gt (tgt := 45) hx hb dX7_waysClear_8 (by decide) (by omega) (by omega) (fun c_2 => ?_) (fun c_2 => (by omega : False).elim)
      have e9 : T_5_1 = x3_5 := by rw [← hL_5, L_X7_waysClear_5]
      have hq := hexit_5
      rw [e9] at hq
      exact hq ls  (lv_sub hl [1, 2, 3, 4] rfl)
    | succ n_5 ih_5 =>
      intro k_5 x3_5 hk5 hk6 hL_5 ls hl
      refine lv_iload hx hb dX7_waysClear_5 (lv_at hl 0 rfl) ?_
      refine lv_iload_n hx hb dX7_waysClear_7 rfl (lv_at hl 2 rfl) ?_
      refine mv_icmp_gt (tgt := 45) hx hb dX7_waysClear_8 (by decide) (by omega) (by omega) (fun c_1 => (by omega : False).elim) (fun c_1 => ?_)
      refine lv_iload_n hx hb dX7_waysClear_11 rfl (lv_at hl 1 rfl) ?_
      refine lv_iload_n hx hb dX7_waysClear_12 rfl (lv_at hl 2 rfl) ?_
      refine lv_iload hx hb dX7_waysClear_13 (lv_at hl 0 rfl) ?_
      refine vp_callSi (va_Run.run (va_runS (As := [.int (nI sto), .int (nI k_5)]) (rest := [.int x3_5]) ⟨hx, hb, hml, hown, hts⟩ (c_X7_choose l sto k_5 (by first | assumption | omega) (by first | assumption | omega)) (va_cwS 2 hts gX7_waysClear_X7_choose rfl rfl rfl (by decide +kernel) ⟨Nat.le_of_ble_eq_true rfl, Nat.le_of_ble_eq_true rfl⟩) ⟨pR_fb, pR_at⟩ rfl rfl hl.1 rfl (lv_room (Nat.le_of_ble_eq_true rfl)) dX7_waysClear_15 ⟨Nat.zero_le _, Nat.zero_le _⟩)) (fun r hr => ?_)
      subst hr
      refine lv_bipush (v := nI 10) hx hb dX7_waysClear_18 rfl ?_
      refine lv_iload_n hx hb dX7_waysClear_20 rfl (lv_at hl 4 rfl) ?_
      refine lv_isub hx hb dX7_waysClear_21 ?_
      refine lv_iload hx hb dX7_waysClear_22 (lv_at hl 0 rfl) ?_
      refine vp_callSi (va_Run.run (va_runS (As := [.int ((nI 10) - qq), .int (nI k_5)]) (rest := [.int (f_X7_choose sto k_5), .int x3_5]) ⟨hx, hb, hml, hown, hts⟩ (c_X7_power l ((nI 10) - qq) k_5 (by first | assumption | omega)) (va_cwS 2 hts gX7_waysClear_X7_power rfl rfl rfl (by decide +kernel) ⟨Nat.le_of_ble_eq_true rfl, Nat.le_of_ble_eq_true rfl⟩) ⟨pR_fb, pR_at⟩ rfl rfl hl.1 rfl (lv_room (Nat.le_of_ble_eq_true rfl)) dX7_waysClear_24 ⟨Nat.zero_le _, Nat.zero_le _⟩)) (fun r hr => ?_)
      subst hr
      refine lv_imul hx hb dX7_waysClear_27 ?_
      refine lv_iload_n hx hb dX7_waysClear_28 rfl (lv_at hl 4 rfl) ?_
      refine lv_iload_n hx hb dX7_waysClear_29 rfl (lv_at hl 2 rfl) ?_
      refine lv_iload hx hb dX7_waysClear_30 (lv_at hl 0 rfl) ?_
      refine mv_isub hx hb dX7_waysClear_32 (by omega) ?_
      refine vp_callSi (va_Run.run (va_runS (As := [.int qq, .int (nI (sto - k_5))]) (rest := [.int ((f_X7_choose sto k_5) * (f_X7_power ((nI 10) - qq) k_5)), .int x3_5]) ⟨hx, hb, hml, hown, hts⟩ (c_X7_power l qq (sto - k_5) (by first | assumption | omega)) (va_cwS 2 hts gX7_waysClear_X7_power rfl rfl rfl (by decide +kernel) ⟨Nat.le_of_ble_eq_true rfl, Nat.le_of_ble_eq_true rfl⟩) ⟨pR_fb, pR_at⟩ rfl rfl hl.1 rfl (lv_room (Nat.le_of_ble_eq_true rfl)) dX7_waysClear_33 ⟨Nat.zero_le _, Nat.zero_le _⟩)) (fun r hr => ?_)
      subst hr
      refine lv_imul hx hb dX7_waysClear_36 ?_
      refine lv_iadd hx hb dX7_waysClear_37 ?_
      refine lv_istore_n (lv' := [(3, .int (x3_5 + (((f_X7_choose sto k_5) * (f_X7_power ((nI 10) - qq) k_5)) * (f_X7_power qq (sto - k_5))))), (4, .int (nI k_5)), (0, .int (nI sto)), (1, .int (nI kk)), (2, .int qq)]) hx hb dX7_waysClear_38 rfl hl (by decide) rfl (fun ls hl => ?_)
      refine mv_iinc (y := k_5 + 1) (lv' := [(4, .int (nI (k_5 + 1))), (3, .int (x3_5 + (((f_X7_choose sto k_5) * (f_X7_power ((nI 10) - qq) k_5)) * (f_X7_power qq (sto - k_5))))), (0, .int (nI sto)), (1, .int (nI kk)), (2, .int qq)]) hx hb dX7_waysClear_39 hl (k := 1) rfl (nI_p1 _) (by decide) rfl (fun ls hl => ?_)
      refine lv_goto (tgt := 5) hx hb dX7_waysClear_42 (by decide) ?_
      exact ih_5 (k_5 + 1) (x3_5 + (((f_X7_choose sto k_5) * (f_X7_power ((nI 10) - qq) k_5)) * (f_X7_power qq (sto - k_5)))) (by omega) (by omega) (by have e9 := hL_5; rw [L_X7_waysClear_5] at e9; exact e9) ls (lv_sub hl [0, 1, 2, 3, 4] rfl)
  exact loop_5 (sto + 1 - kk) kk (nI 0) (by omega) (by omega) hT_5_1.symm ls (lv_sub hl [0, 1, 2, 3, 4] rfl)
def L_X7_commonDivisor_7  : Nat → Nat → Int32 → Int32 → Int32 × Int32
  | 0, _, x3_7, x2_7 => (x3_7, x2_7)
  | n_7 + 1, k_7, x3_7, x2_7 => (if x3_7 = 0 then (x3_7, x2_7) else (L_X7_commonDivisor_7 n_7 (k_7 + 1) (x2_7 - x2_7 / x3_7 * x3_7) x3_7))
def f_X7_commonDivisor (x0 : Int32) (x1 : Int32) : Int32 := (L_X7_commonDivisor_7 64 0 x1 x0).2
abbrev rm_X7_commonDivisor : Room := { frames := 0, cells := 0, slots := 0, locals := 0 }
set_option maxHeartbeats 4000000 in
set_option maxRecDepth 100000 in
theorem c_X7_commonDivisor (l : Launch) (x0 : Int32) (x1 : Int32)  : Met l yX7_commonDivisor wsX7_commonDivisor rm_X7_commonDivisor (va_Pc [.int x0, .int x1] (fun _ => True)) (vp_Si (fun r => r = (f_X7_commonDivisor x0 x1))) 0 0 (fun _ => False) := by
  refine Met.ofW (cc := cX7_commonDivisor) (maxL := 6) (ret := (some .int)) (by decide) rfl ?_
  intro p e s m args below meth c s₁ B hml hv
  obtain ⟨rfl, -⟩ := hv
  have hx := B.exec
  have hb := B.bytes
  have hr := B.returns
  have hts := atoms_spec (ws := wsX7_commonDivisor) B.pre
  have hown : s.vm.findClass RX7 = some m.cls := findClass_of_methodNamed B.named
  have hlocks := B.notSynchronized
  have hl := lv_entry ([.int x0, .int x1]) (n := 6) (Nat.le_of_ble_eq_true rfl)
  rw [lg_entry_eq]
  generalize (lg_sl ([.int x0, .int x1]) ++ List.replicate (6 - (lg_sl ([.int x0, .int x1])).length) Slot.unset).toArray = ls at hl ⊢
  have hl : lv_has ls 6 [(0, .int x0), (1, .int x1)] := hl
  obtain ⟨Q, hQe⟩ : ∃ Q, Q = MQ below (vp_Si (fun r => r = (f_X7_commonDivisor x0 x1))) ([.int x0, .int x1] : List Value).toArray s 0 0 (fun _ => False) := ⟨_, rfl⟩
  show W p l e (headSpec wsX7_commonDivisor rm_X7_commonDivisor).room s m ([.int x0, .int x1] : List Value).toArray below meth c s.heap [] 0 0 (MQ below (vp_Si (fun r => r = (f_X7_commonDivisor x0 x1))) ([.int x0, .int x1] : List Value).toArray s 0 0 (fun _ => False)) (F0 m 0 ls [])
  rw [← hQe]
  refine lv_iload_n hx hb dX7_commonDivisor_0 rfl (lv_at hl 0 rfl) ?_
  refine lv_istore_n (lv' := [(2, .int x0), (0, .int x0), (1, .int x1)]) hx hb dX7_commonDivisor_1 rfl hl (by decide) rfl (fun ls hl => ?_)
  refine lv_iload_n hx hb dX7_commonDivisor_2 rfl (lv_at hl 2 rfl) ?_
  refine lv_istore_n (lv' := [(3, .int x1), (2, .int x0), (0, .int x0), (1, .int x1)]) hx hb dX7_commonDivisor_3 rfl hl (by decide) rfl (fun ls hl => ?_)
  refine lv_iconst (v := nI 0) hx hb dX7_commonDivisor_4 rfl ?_
  refine lv_istore (lv' := [(4, .int (nI 0)), (3, .int x1), (2, .int x0), (0, .int x0), (1, .int x1)]) hx hb dX7_commonDivisor_5 hl (by decide) rfl (fun ls hl => ?_)
  obtain ⟨T_7_1, hT_7_1⟩ : ∃ z, z = (L_X7_commonDivisor_7 64 0 x1 x0) := ⟨_, rfl⟩
  have hexit_7 : ∀ (ls : Array Slot), lv_has ls 6 [(3, .int T_7_1.1), (2, .int T_7_1.2), (0, .int x0), (1, .int x1)] → W p l e (headSpec wsX7_commonDivisor rm_X7_commonDivisor).room s m ([.int x0, .int x1] : List Value).toArray below meth c s.heap [] 0 0 Q (F0 m 34 ls []) := by
    intro ls hl
    refine lv_iload_n hx hb dX7_commonDivisor_34 rfl (lv_at hl 1 rfl) ?_
    subst hQe
    have hf : (f_X7_commonDivisor x0 x1) = T_7_1.2 := by rw [f_X7_commonDivisor]; (try rw [← hT_7_1]); first | done | rfl
    exact W.iret (v := T_7_1.2) hx hb hr (fun t ht hW => ⟨T_7_1.2, rfl, hf.symm, ht⟩) (fun _ h => by cases h) dX7_commonDivisor_35
  have loop_7 : ∀ (n_7 : Nat) (k_7 : Nat) (x3_7 : Int32) (x2_7 : Int32), (k_7 + n_7 = 64) → L_X7_commonDivisor_7 n_7 k_7 x3_7 x2_7 = T_7_1 → ∀ (ls : Array Slot), lv_has ls 6 [(4, .int (nI k_7)), (3, .int x3_7), (2, .int x2_7), (0, .int x0), (1, .int x1)] → W p l e (headSpec wsX7_commonDivisor rm_X7_commonDivisor).room s m ([.int x0, .int x1] : List Value).toArray below meth c s.heap [] 0 0 Q (F0 m 7 ls []) := by
    intro n_7
    induction n_7 with
    | zero =>
      intro k_7 x3_7 x2_7 hk_7 hL_7 ls hl
      refine lv_iload hx hb dX7_commonDivisor_7 (lv_at hl 0 rfl) ?_
      refine lv_bipush (v := nI 64) hx hb dX7_commonDivisor_9 rfl ?_
      refine mv_icmp_ge (tgt := 34) hx hb dX7_commonDivisor_11 (by decide) (by omega) (by decide) (fun c_3 => ?_) (fun c_3 => (by omega : False).elim)
      have e9 : T_7_1 = (x3_7, x2_7) := by rw [← hL_7, L_X7_commonDivisor_7]
      have hq := hexit_7
      rw [e9] at hq
      exact hq ls  (lv_sub hl [1, 2, 3, 4] rfl)
    | succ n_7 ih_7 =>
      intro k_7 x3_7 x2_7 hk_7 hL_7 ls hl
      refine lv_iload hx hb dX7_commonDivisor_7 (lv_at hl 0 rfl) ?_
      refine lv_bipush (v := nI 64) hx hb dX7_commonDivisor_9 rfl ?_
      refine mv_icmp_ge (tgt := 34) hx hb dX7_commonDivisor_11 (by decide) (by omega) (by decide) (fun c_1 => (by omega : False).elim) (fun c_1 => ?_)
      refine lv_iload_n hx hb dX7_commonDivisor_14 rfl (lv_at hl 1 rfl) ?_
      refine lv_if_eq (tgt := 34) hx hb dX7_commonDivisor_15 (by decide) (fun c_2 => ?_) (fun c_2 => ?_)
      · have e9 : T_7_1 = (x3_7, x2_7) := by rw [← hL_7, L_X7_commonDivisor_7, if_pos c_2]
        have hq := hexit_7
        rw [e9] at hq
        exact hq ls  (lv_sub hl [1, 2, 3, 4] rfl)
      · refine lv_iload_n hx hb dX7_commonDivisor_18 rfl (lv_at hl 2 rfl) ?_
        refine lv_iload_n hx hb dX7_commonDivisor_19 rfl (lv_at hl 1 rfl) ?_
        refine lv_irem hx hb dX7_commonDivisor_20 c_2 ?_
        refine lv_istore (lv' := [(5, .int (x2_7 - x2_7 / x3_7 * x3_7)), (4, .int (nI k_7)), (3, .int x3_7), (2, .int x2_7), (0, .int x0), (1, .int x1)]) hx hb dX7_commonDivisor_21 hl (by decide) rfl (fun ls hl => ?_)
        refine lv_iload_n hx hb dX7_commonDivisor_23 rfl (lv_at hl 2 rfl) ?_
        refine lv_istore_n (lv' := [(2, .int x3_7), (5, .int (x2_7 - x2_7 / x3_7 * x3_7)), (4, .int (nI k_7)), (3, .int x3_7), (0, .int x0), (1, .int x1)]) hx hb dX7_commonDivisor_24 rfl hl (by decide) rfl (fun ls hl => ?_)
        refine lv_iload hx hb dX7_commonDivisor_25 (lv_at hl 1 rfl) ?_
        refine lv_istore_n (lv' := [(3, .int (x2_7 - x2_7 / x3_7 * x3_7)), (2, .int x3_7), (5, .int (x2_7 - x2_7 / x3_7 * x3_7)), (4, .int (nI k_7)), (0, .int x0), (1, .int x1)]) hx hb dX7_commonDivisor_27 rfl hl (by decide) rfl (fun ls hl => ?_)
        refine mv_iinc (y := k_7 + 1) (lv' := [(4, .int (nI (k_7 + 1))), (3, .int (x2_7 - x2_7 / x3_7 * x3_7)), (2, .int x3_7), (5, .int (x2_7 - x2_7 / x3_7 * x3_7)), (0, .int x0), (1, .int x1)]) hx hb dX7_commonDivisor_28 hl (k := 3) rfl (nI_p1 _) (by decide) rfl (fun ls hl => ?_)
        refine lv_goto (tgt := 7) hx hb dX7_commonDivisor_31 (by decide) ?_
        exact ih_7 (k_7 + 1) (x2_7 - x2_7 / x3_7 * x3_7) x3_7 (by omega) (by have e9 := hL_7; rw [L_X7_commonDivisor_7, if_neg c_2] at e9; exact e9) ls (lv_sub hl [0, 1, 2, 4, 5] rfl)
  exact loop_7 64 0 x1 x0 (by omega) hT_7_1.symm ls (lv_sub hl [0, 1, 2, 3, 4] rfl)
def f_X6_kindOf (td : XTd) (pa : Int32) : Int32 := (if pa < 0 then (-1 : Int32) else (if nI 6 ≤ pa then (-1 : Int32) else (td.1 pa.toNatClampNeg)))
abbrev rm_X6_kindOf : Room := { frames := 0, cells := 0, slots := 0, locals := 0 }
set_option maxHeartbeats 4000000 in
set_option maxRecDepth 100000 in
theorem c_X6_kindOf (l : Launch) (D : va_G) (cI cL cZ : ClassId) (ad : Nat → Nat) (A : Nat → Prop) (tx : XTx) (td : XTd) (dr : XTd) (dy : XDy) (lb : (Nat → Int32)) (pn : (Nat × Nat)) (ps : XSh) (ks : XSh) (si : XSi) (kb : Int32) (pa : Int32)  : Met l yX6_kindOf wsX6_kindOf rm_X6_kindOf (va_Pc [.ref (ad 3), .int pa] (sR D cI cL cZ A (xW cI cL cZ ad tx td dr dy lb pn ps ks si kb))) (vp_Si (fun r => r = (f_X6_kindOf td pa))) 0 0 (fun _ => False) := by
  refine Met.ofW (cc := cX6_kindOf) (maxL := 2) (ret := (some .int)) (by decide) rfl ?_
  intro p e s m args below meth c s₁ B hml hv
  obtain ⟨rfl, hP, hK, hD, hE⟩ := hv
  have hx := B.exec
  have hb := B.bytes
  have hr := B.returns
  have hts := atoms_spec (ws := wsX6_kindOf) B.pre
  have hown : s.vm.findClass RX6 = some m.cls := findClass_of_methodNamed B.named
  have hlocks := B.notSynchronized
  have hl := lv_entry ([.ref (ad 3), .int pa]) (n := 2) (Nat.le_of_ble_eq_true rfl)
  rw [lg_entry_eq]
  generalize (lg_sl ([.ref (ad 3), .int pa]) ++ List.replicate (2 - (lg_sl ([.ref (ad 3), .int pa])).length) Slot.unset).toArray = ls at hl ⊢
  have hl : lv_has ls 2 [(0, .ref (ad 3)), (1, .int pa)] := hl
  refine lv_iload_n hx hb dX6_kindOf_0 rfl (lv_at hl 1 rfl) ?_
  refine mv_phi (v := (if pa < 0 then (-1 : Int32) else (if nI 6 ≤ pa then (-1 : Int32) else (td.1 pa.toNatClampNeg)))) (pcj := 20) (ls := ls) (rest' := []) ?_ (fun J_1 => ?_)
  · have hf : (f_X6_kindOf td pa) = (if pa < 0 then (-1 : Int32) else (if nI 6 ≤ pa then (-1 : Int32) else (td.1 pa.toNatClampNeg))) := by rw [f_X6_kindOf]
    exact W.iret (v := (if pa < 0 then (-1 : Int32) else (if nI 6 ≤ pa then (-1 : Int32) else (td.1 pa.toNatClampNeg)))) hx hb hr (fun t ht hW => ⟨(if pa < 0 then (-1 : Int32) else (if nI 6 ≤ pa then (-1 : Int32) else (td.1 pa.toNatClampNeg))), rfl, hf.symm, ht⟩) (fun _ h => by cases h) dX6_kindOf_20
  · refine lv_if_lt (tgt := 19) hx hb dX6_kindOf_1 (by decide) (fun c_2 => ?_) (fun c_2 => ?_)
    · refine lv_iconst (v := (-1)) hx hb dX6_kindOf_19 rfl ?_
      exact J_1 _ (by rw [if_pos c_2])
    · refine lv_iload_n hx hb dX6_kindOf_4 rfl (lv_at hl 1 rfl) ?_
      refine lv_bipush (v := nI 6) hx hb dX6_kindOf_5 rfl ?_
      refine lv_icmp_ge (tgt := 19) hx hb dX6_kindOf_7 (by decide) (fun c_3 => ?_) (fun c_3 => ?_)
      · refine lv_iconst (v := (-1)) hx hb dX6_kindOf_19 rfl ?_
        exact J_1 _ (by rw [if_neg c_2, if_pos c_3])
      · refine lv_aload_n hx hb dX6_kindOf_10 rfl (lv_at hl 0 rfl) ?_
        refine va_get (D := D) (ci := 6) (v := .ref (ad 4)) (C := RX6) (T := TX6) (N := 7) hx hb hts (by decide +kernel) hown hK hP 3 rfl rfl 0 (by decide) (hts (.fieldLink RX6 9 "SummitTime$Told" "kinds" "[I") (by decide +kernel)) (fun _ h9 => h9) rfl dX6_kindOf_11 ?_
        refine lv_iload_n hx hb dX6_kindOf_14 rfl (lv_at hl 1 rfl) ?_
        refine va_iald (f := td.1) hx hb hK hP 4 0 rfl rfl (ix_g 6 (by decide) (by decide) c_2 c_3) dX6_kindOf_15 ?_
        refine lv_goto (tgt := 20) hx hb dX6_kindOf_16 (by decide) ?_
        exact J_1 _ (by rw [if_neg c_2, if_neg c_3])
def f_X6_paceOf (td : XTd) (pa : Int32) : Int32 := (if pa < 0 then nI 0 else (if nI 6 ≤ pa then nI 0 else (td.2.1 pa.toNatClampNeg)))
abbrev rm_X6_paceOf : Room := { frames := 0, cells := 0, slots := 0, locals := 0 }
set_option maxHeartbeats 4000000 in
set_option maxRecDepth 100000 in
theorem c_X6_paceOf (l : Launch) (D : va_G) (cI cL cZ : ClassId) (ad : Nat → Nat) (A : Nat → Prop) (tx : XTx) (td : XTd) (dr : XTd) (dy : XDy) (lb : (Nat → Int32)) (pn : (Nat × Nat)) (ps : XSh) (ks : XSh) (si : XSi) (kb : Int32) (pa : Int32)  : Met l yX6_paceOf wsX6_paceOf rm_X6_paceOf (va_Pc [.ref (ad 3), .int pa] (sR D cI cL cZ A (xW cI cL cZ ad tx td dr dy lb pn ps ks si kb))) (vp_Si (fun r => r = (f_X6_paceOf td pa))) 0 0 (fun _ => False) := by
  refine Met.ofW (cc := cX6_paceOf) (maxL := 2) (ret := (some .int)) (by decide) rfl ?_
  intro p e s m args below meth c s₁ B hml hv
  obtain ⟨rfl, hP, hK, hD, hE⟩ := hv
  have hx := B.exec
  have hb := B.bytes
  have hr := B.returns
  have hts := atoms_spec (ws := wsX6_paceOf) B.pre
  have hown : s.vm.findClass RX6 = some m.cls := findClass_of_methodNamed B.named
  have hlocks := B.notSynchronized
  have hl := lv_entry ([.ref (ad 3), .int pa]) (n := 2) (Nat.le_of_ble_eq_true rfl)
  rw [lg_entry_eq]
  generalize (lg_sl ([.ref (ad 3), .int pa]) ++ List.replicate (2 - (lg_sl ([.ref (ad 3), .int pa])).length) Slot.unset).toArray = ls at hl ⊢
  have hl : lv_has ls 2 [(0, .ref (ad 3)), (1, .int pa)] := hl
  refine lv_iload_n hx hb dX6_paceOf_0 rfl (lv_at hl 1 rfl) ?_
  refine mv_phi (v := (if pa < 0 then nI 0 else (if nI 6 ≤ pa then nI 0 else (td.2.1 pa.toNatClampNeg)))) (pcj := 20) (ls := ls) (rest' := []) ?_ (fun J_1 => ?_)
  · have hf : (f_X6_paceOf td pa) = (if pa < 0 then nI 0 else (if nI 6 ≤ pa then nI 0 else (td.2.1 pa.toNatClampNeg))) := by rw [f_X6_paceOf]
    exact W.iret (v := (if pa < 0 then nI 0 else (if nI 6 ≤ pa then nI 0 else (td.2.1 pa.toNatClampNeg)))) hx hb hr (fun t ht hW => ⟨(if pa < 0 then nI 0 else (if nI 6 ≤ pa then nI 0 else (td.2.1 pa.toNatClampNeg))), rfl, hf.symm, ht⟩) (fun _ h => by cases h) dX6_paceOf_20
  · refine lv_if_lt (tgt := 19) hx hb dX6_paceOf_1 (by decide) (fun c_2 => ?_) (fun c_2 => ?_)
    · refine lv_iconst (v := nI 0) hx hb dX6_paceOf_19 rfl ?_
      exact J_1 _ (by rw [if_pos c_2])
    · refine lv_iload_n hx hb dX6_paceOf_4 rfl (lv_at hl 1 rfl) ?_
      refine lv_bipush (v := nI 6) hx hb dX6_paceOf_5 rfl ?_
      refine lv_icmp_ge (tgt := 19) hx hb dX6_paceOf_7 (by decide) (fun c_3 => ?_) (fun c_3 => ?_)
      · refine lv_iconst (v := nI 0) hx hb dX6_paceOf_19 rfl ?_
        exact J_1 _ (by rw [if_neg c_2, if_pos c_3])
      · refine lv_aload_n hx hb dX6_paceOf_10 rfl (lv_at hl 0 rfl) ?_
        refine va_get (D := D) (ci := 6) (v := .ref (ad 5)) (C := RX6) (T := TX6) (N := 7) hx hb hts (by decide +kernel) hown hK hP 3 rfl rfl 1 (by decide) (hts (.fieldLink RX6 15 "SummitTime$Told" "paces" "[I") (by decide +kernel)) (fun _ h9 => h9) rfl dX6_paceOf_11 ?_
        refine lv_iload_n hx hb dX6_paceOf_14 rfl (lv_at hl 1 rfl) ?_
        refine va_iald (f := td.2.1) hx hb hK hP 5 0 rfl rfl (ix_g 6 (by decide) (by decide) c_2 c_3) dX6_paceOf_15 ?_
        refine lv_goto (tgt := 20) hx hb dX6_paceOf_16 (by decide) ?_
        exact J_1 _ (by rw [if_neg c_2, if_neg c_3])
def f_X6_stayOf (td : XTd) (pa : Int32) : Int32 := (if pa < 0 then nI 0 else (if nI 6 ≤ pa then nI 0 else (td.2.2.1 pa.toNatClampNeg)))
abbrev rm_X6_stayOf : Room := { frames := 0, cells := 0, slots := 0, locals := 0 }
set_option maxHeartbeats 4000000 in
set_option maxRecDepth 100000 in
theorem c_X6_stayOf (l : Launch) (D : va_G) (cI cL cZ : ClassId) (ad : Nat → Nat) (A : Nat → Prop) (tx : XTx) (td : XTd) (dr : XTd) (dy : XDy) (lb : (Nat → Int32)) (pn : (Nat × Nat)) (ps : XSh) (ks : XSh) (si : XSi) (kb : Int32) (pa : Int32)  : Met l yX6_stayOf wsX6_stayOf rm_X6_stayOf (va_Pc [.ref (ad 3), .int pa] (sR D cI cL cZ A (xW cI cL cZ ad tx td dr dy lb pn ps ks si kb))) (vp_Si (fun r => r = (f_X6_stayOf td pa))) 0 0 (fun _ => False) := by
  refine Met.ofW (cc := cX6_stayOf) (maxL := 2) (ret := (some .int)) (by decide) rfl ?_
  intro p e s m args below meth c s₁ B hml hv
  obtain ⟨rfl, hP, hK, hD, hE⟩ := hv
  have hx := B.exec
  have hb := B.bytes
  have hr := B.returns
  have hts := atoms_spec (ws := wsX6_stayOf) B.pre
  have hown : s.vm.findClass RX6 = some m.cls := findClass_of_methodNamed B.named
  have hlocks := B.notSynchronized
  have hl := lv_entry ([.ref (ad 3), .int pa]) (n := 2) (Nat.le_of_ble_eq_true rfl)
  rw [lg_entry_eq]
  generalize (lg_sl ([.ref (ad 3), .int pa]) ++ List.replicate (2 - (lg_sl ([.ref (ad 3), .int pa])).length) Slot.unset).toArray = ls at hl ⊢
  have hl : lv_has ls 2 [(0, .ref (ad 3)), (1, .int pa)] := hl
  refine lv_iload_n hx hb dX6_stayOf_0 rfl (lv_at hl 1 rfl) ?_
  refine mv_phi (v := (if pa < 0 then nI 0 else (if nI 6 ≤ pa then nI 0 else (td.2.2.1 pa.toNatClampNeg)))) (pcj := 20) (ls := ls) (rest' := []) ?_ (fun J_1 => ?_)
  · have hf : (f_X6_stayOf td pa) = (if pa < 0 then nI 0 else (if nI 6 ≤ pa then nI 0 else (td.2.2.1 pa.toNatClampNeg))) := by rw [f_X6_stayOf]
    exact W.iret (v := (if pa < 0 then nI 0 else (if nI 6 ≤ pa then nI 0 else (td.2.2.1 pa.toNatClampNeg)))) hx hb hr (fun t ht hW => ⟨(if pa < 0 then nI 0 else (if nI 6 ≤ pa then nI 0 else (td.2.2.1 pa.toNatClampNeg))), rfl, hf.symm, ht⟩) (fun _ h => by cases h) dX6_stayOf_20
  · refine lv_if_lt (tgt := 19) hx hb dX6_stayOf_1 (by decide) (fun c_2 => ?_) (fun c_2 => ?_)
    · refine lv_iconst (v := nI 0) hx hb dX6_stayOf_19 rfl ?_
      exact J_1 _ (by rw [if_pos c_2])
    · refine lv_iload_n hx hb dX6_stayOf_4 rfl (lv_at hl 1 rfl) ?_
      refine lv_bipush (v := nI 6) hx hb dX6_stayOf_5 rfl ?_
      refine lv_icmp_ge (tgt := 19) hx hb dX6_stayOf_7 (by decide) (fun c_3 => ?_) (fun c_3 => ?_)
      · refine lv_iconst (v := nI 0) hx hb dX6_stayOf_19 rfl ?_
        exact J_1 _ (by rw [if_neg c_2, if_pos c_3])
      · refine lv_aload_n hx hb dX6_stayOf_10 rfl (lv_at hl 0 rfl) ?_
        refine va_get (D := D) (ci := 6) (v := .ref (ad 6)) (C := RX6) (T := TX6) (N := 7) hx hb hts (by decide +kernel) hown hK hP 3 rfl rfl 2 (by decide) (hts (.fieldLink RX6 18 "SummitTime$Told" "stayings" "[I") (by decide +kernel)) (fun _ h9 => h9) rfl dX6_stayOf_11 ?_
        refine lv_iload_n hx hb dX6_stayOf_14 rfl (lv_at hl 1 rfl) ?_
        refine va_iald (f := td.2.2.1) hx hb hK hP 6 0 rfl rfl (ix_g 6 (by decide) (by decide) c_2 c_3) dX6_stayOf_15 ?_
        refine lv_goto (tgt := 20) hx hb dX6_stayOf_16 (by decide) ?_
        exact J_1 _ (by rw [if_neg c_2, if_neg c_3])
def f_X6_rentOf (td : XTd) (pa : Int32) : Int32 := (if pa < 0 then nI 0 else (if nI 6 ≤ pa then nI 0 else (td.2.2.2.1 pa.toNatClampNeg)))
abbrev rm_X6_rentOf : Room := { frames := 0, cells := 0, slots := 0, locals := 0 }
set_option maxHeartbeats 4000000 in
set_option maxRecDepth 100000 in
theorem c_X6_rentOf (l : Launch) (D : va_G) (cI cL cZ : ClassId) (ad : Nat → Nat) (A : Nat → Prop) (tx : XTx) (td : XTd) (dr : XTd) (dy : XDy) (lb : (Nat → Int32)) (pn : (Nat × Nat)) (ps : XSh) (ks : XSh) (si : XSi) (kb : Int32) (pa : Int32)  : Met l yX6_rentOf wsX6_rentOf rm_X6_rentOf (va_Pc [.ref (ad 3), .int pa] (sR D cI cL cZ A (xW cI cL cZ ad tx td dr dy lb pn ps ks si kb))) (vp_Si (fun r => r = (f_X6_rentOf td pa))) 0 0 (fun _ => False) := by
  refine Met.ofW (cc := cX6_rentOf) (maxL := 2) (ret := (some .int)) (by decide) rfl ?_
  intro p e s m args below meth c s₁ B hml hv
  obtain ⟨rfl, hP, hK, hD, hE⟩ := hv
  have hx := B.exec
  have hb := B.bytes
  have hr := B.returns
  have hts := atoms_spec (ws := wsX6_rentOf) B.pre
  have hown : s.vm.findClass RX6 = some m.cls := findClass_of_methodNamed B.named
  have hlocks := B.notSynchronized
  have hl := lv_entry ([.ref (ad 3), .int pa]) (n := 2) (Nat.le_of_ble_eq_true rfl)
  rw [lg_entry_eq]
  generalize (lg_sl ([.ref (ad 3), .int pa]) ++ List.replicate (2 - (lg_sl ([.ref (ad 3), .int pa])).length) Slot.unset).toArray = ls at hl ⊢
  have hl : lv_has ls 2 [(0, .ref (ad 3)), (1, .int pa)] := hl
  refine lv_iload_n hx hb dX6_rentOf_0 rfl (lv_at hl 1 rfl) ?_
  refine mv_phi (v := (if pa < 0 then nI 0 else (if nI 6 ≤ pa then nI 0 else (td.2.2.2.1 pa.toNatClampNeg)))) (pcj := 20) (ls := ls) (rest' := []) ?_ (fun J_1 => ?_)
  · have hf : (f_X6_rentOf td pa) = (if pa < 0 then nI 0 else (if nI 6 ≤ pa then nI 0 else (td.2.2.2.1 pa.toNatClampNeg))) := by rw [f_X6_rentOf]
    exact W.iret (v := (if pa < 0 then nI 0 else (if nI 6 ≤ pa then nI 0 else (td.2.2.2.1 pa.toNatClampNeg)))) hx hb hr (fun t ht hW => ⟨(if pa < 0 then nI 0 else (if nI 6 ≤ pa then nI 0 else (td.2.2.2.1 pa.toNatClampNeg))), rfl, hf.symm, ht⟩) (fun _ h => by cases h) dX6_rentOf_20
  · refine lv_if_lt (tgt := 19) hx hb dX6_rentOf_1 (by decide) (fun c_2 => ?_) (fun c_2 => ?_)
    · refine lv_iconst (v := nI 0) hx hb dX6_rentOf_19 rfl ?_
      exact J_1 _ (by rw [if_pos c_2])
    · refine lv_iload_n hx hb dX6_rentOf_4 rfl (lv_at hl 1 rfl) ?_
      refine lv_bipush (v := nI 6) hx hb dX6_rentOf_5 rfl ?_
      refine lv_icmp_ge (tgt := 19) hx hb dX6_rentOf_7 (by decide) (fun c_3 => ?_) (fun c_3 => ?_)
      · refine lv_iconst (v := nI 0) hx hb dX6_rentOf_19 rfl ?_
        exact J_1 _ (by rw [if_neg c_2, if_pos c_3])
      · refine lv_aload_n hx hb dX6_rentOf_10 rfl (lv_at hl 0 rfl) ?_
        refine va_get (D := D) (ci := 6) (v := .ref (ad 7)) (C := RX6) (T := TX6) (N := 7) hx hb hts (by decide +kernel) hown hK hP 3 rfl rfl 3 (by decide) (hts (.fieldLink RX6 21 "SummitTime$Told" "rents" "[I") (by decide +kernel)) (fun _ h9 => h9) rfl dX6_rentOf_11 ?_
        refine lv_iload_n hx hb dX6_rentOf_14 rfl (lv_at hl 1 rfl) ?_
        refine va_iald (f := td.2.2.2.1) hx hb hK hP 7 0 rfl rfl (ix_g 6 (by decide) (by decide) c_2 c_3) dX6_rentOf_15 ?_
        refine lv_goto (tgt := 20) hx hb dX6_rentOf_16 (by decide) ?_
        exact J_1 _ (by rw [if_neg c_2, if_neg c_3])
def f_X6_walkOf (td : XTd) (pa : Int32) : Int32 := (if pa < 0 then nI 0 else (if pa < nI 6 then (if (td.1 pa.toNatClampNeg) = nI 1 then (if (td.2.1 pa.toNatClampNeg) ≤ nI 1 then (td.2.1 pa.toNatClampNeg) else ((td.2.1 pa.toNatClampNeg) - (nI 1))) else (td.2.1 pa.toNatClampNeg)) else nI 0))
abbrev rm_X6_walkOf : Room := { frames := 0, cells := 0, slots := 0, locals := 0 }
set_option maxHeartbeats 4000000 in
set_option maxRecDepth 100000 in
theorem c_X6_walkOf (l : Launch) (D : va_G) (cI cL cZ : ClassId) (ad : Nat → Nat) (A : Nat → Prop) (tx : XTx) (td : XTd) (dr : XTd) (dy : XDy) (lb : (Nat → Int32)) (pn : (Nat × Nat)) (ps : XSh) (ks : XSh) (si : XSi) (kb : Int32) (pa : Int32)  : Met l yX6_walkOf wsX6_walkOf rm_X6_walkOf (va_Pc [.ref (ad 3), .int pa] (sR D cI cL cZ A (xW cI cL cZ ad tx td dr dy lb pn ps ks si kb))) (vp_Si (fun r => r = (f_X6_walkOf td pa))) 0 0 (fun _ => False) := by
  refine Met.ofW (cc := cX6_walkOf) (maxL := 2) (ret := (some .int)) (by decide) rfl ?_
  intro p e s m args below meth c s₁ B hml hv
  obtain ⟨rfl, hP, hK, hD, hE⟩ := hv
  have hx := B.exec
  have hb := B.bytes
  have hr := B.returns
  have hts := atoms_spec (ws := wsX6_walkOf) B.pre
  have hown : s.vm.findClass RX6 = some m.cls := findClass_of_methodNamed B.named
  have hlocks := B.notSynchronized
  have hl := lv_entry ([.ref (ad 3), .int pa]) (n := 2) (Nat.le_of_ble_eq_true rfl)
  rw [lg_entry_eq]
  generalize (lg_sl ([.ref (ad 3), .int pa]) ++ List.replicate (2 - (lg_sl ([.ref (ad 3), .int pa])).length) Slot.unset).toArray = ls at hl ⊢
  have hl : lv_has ls 2 [(0, .ref (ad 3)), (1, .int pa)] := hl
  refine lv_iload_n hx hb dX6_walkOf_0 rfl (lv_at hl 1 rfl) ?_
  refine lv_if_lt (tgt := 10) hx hb dX6_walkOf_1 (by decide) (fun c_1 => ?_) (fun c_1 => ?_)
  · refine lv_iconst (v := nI 0) hx hb dX6_walkOf_10 rfl ?_
    have hf : (f_X6_walkOf td pa) = nI 0 := by rw [f_X6_walkOf, if_pos c_1]
    exact W.iret (v := nI 0) hx hb hr (fun t ht hW => ⟨nI 0, rfl, hf.symm, ht⟩) (fun _ h => by cases h) dX6_walkOf_11
  · refine lv_iload_n hx hb dX6_walkOf_4 rfl (lv_at hl 1 rfl) ?_
    refine lv_bipush (v := nI 6) hx hb dX6_walkOf_5 rfl ?_
    refine lv_icmp_lt (tgt := 12) hx hb dX6_walkOf_7 (by decide) (fun c_2 => ?_) (fun c_2 => ?_)
    · refine lv_aload_n hx hb dX6_walkOf_12 rfl (lv_at hl 0 rfl) ?_
      refine va_get (D := D) (ci := 6) (v := .ref (ad 4)) (C := RX6) (T := TX6) (N := 7) hx hb hts (by decide +kernel) hown hK hP 3 rfl rfl 0 (by decide) (hts (.fieldLink RX6 9 "SummitTime$Told" "kinds" "[I") (by decide +kernel)) (fun _ h9 => h9) rfl dX6_walkOf_13 ?_
      refine lv_iload_n hx hb dX6_walkOf_16 rfl (lv_at hl 1 rfl) ?_
      refine va_iald (f := td.1) hx hb hK hP 4 0 rfl rfl (ix_l 6 (by decide) (by decide) c_1 c_2) dX6_walkOf_17 ?_
      refine lv_iconst (v := nI 1) hx hb dX6_walkOf_18 rfl ?_
      refine mv_phi (v := (if (td.1 pa.toNatClampNeg) = nI 1 then (if (td.2.1 pa.toNatClampNeg) ≤ nI 1 then (td.2.1 pa.toNatClampNeg) else ((td.2.1 pa.toNatClampNeg) - (nI 1))) else (td.2.1 pa.toNatClampNeg))) (pcj := 49) (ls := ls) (rest' := []) ?_ (fun J_3 => ?_)
      · have hf : (f_X6_walkOf td pa) = (if (td.1 pa.toNatClampNeg) = nI 1 then (if (td.2.1 pa.toNatClampNeg) ≤ nI 1 then (td.2.1 pa.toNatClampNeg) else ((td.2.1 pa.toNatClampNeg) - (nI 1))) else (td.2.1 pa.toNatClampNeg)) := by rw [f_X6_walkOf, if_neg c_1, if_pos c_2]
        exact W.iret (v := (if (td.1 pa.toNatClampNeg) = nI 1 then (if (td.2.1 pa.toNatClampNeg) ≤ nI 1 then (td.2.1 pa.toNatClampNeg) else ((td.2.1 pa.toNatClampNeg) - (nI 1))) else (td.2.1 pa.toNatClampNeg))) hx hb hr (fun t ht hW => ⟨(if (td.1 pa.toNatClampNeg) = nI 1 then (if (td.2.1 pa.toNatClampNeg) ≤ nI 1 then (td.2.1 pa.toNatClampNeg) else ((td.2.1 pa.toNatClampNeg) - (nI 1))) else (td.2.1 pa.toNatClampNeg)), rfl, hf.symm, ht⟩) (fun _ h => by cases h) dX6_walkOf_49
      · refine lv_icmp_ne (tgt := 43) hx hb dX6_walkOf_19 (by decide) (fun c_4 => ?_) (fun c_4 => ?_)
        · refine lv_aload_n hx hb dX6_walkOf_43 rfl (lv_at hl 0 rfl) ?_
          refine va_get (D := D) (ci := 6) (v := .ref (ad 5)) (C := RX6) (T := TX6) (N := 7) hx hb hts (by decide +kernel) hown hK hP 3 rfl rfl 1 (by decide) (hts (.fieldLink RX6 15 "SummitTime$Told" "paces" "[I") (by decide +kernel)) (fun _ h9 => h9) rfl dX6_walkOf_44 ?_
          refine lv_iload_n hx hb dX6_walkOf_47 rfl (lv_at hl 1 rfl) ?_
          refine va_iald (f := td.2.1) hx hb hK hP 5 0 rfl rfl (ix_l 6 (by decide) (by decide) c_1 c_2) dX6_walkOf_48 ?_
          exact J_3 _ (by rw [if_neg c_4])
        · refine lv_aload_n hx hb dX6_walkOf_22 rfl (lv_at hl 0 rfl) ?_
          refine va_get (D := D) (ci := 6) (v := .ref (ad 5)) (C := RX6) (T := TX6) (N := 7) hx hb hts (by decide +kernel) hown hK hP 3 rfl rfl 1 (by decide) (hts (.fieldLink RX6 15 "SummitTime$Told" "paces" "[I") (by decide +kernel)) (fun _ h9 => h9) rfl dX6_walkOf_23 ?_
          refine lv_iload_n hx hb dX6_walkOf_26 rfl (lv_at hl 1 rfl) ?_
          refine va_iald (f := td.2.1) hx hb hK hP 5 0 rfl rfl (ix_l 6 (by decide) (by decide) c_1 c_2) dX6_walkOf_27 ?_
          refine lv_iconst (v := nI 1) hx hb dX6_walkOf_28 rfl ?_
          refine lv_icmp_le (tgt := 43) hx hb dX6_walkOf_29 (by decide) (fun c_5 => ?_) (fun c_5 => ?_)
          · refine lv_aload_n hx hb dX6_walkOf_43 rfl (lv_at hl 0 rfl) ?_
            refine va_get (D := D) (ci := 6) (v := .ref (ad 5)) (C := RX6) (T := TX6) (N := 7) hx hb hts (by decide +kernel) hown hK hP 3 rfl rfl 1 (by decide) (hts (.fieldLink RX6 15 "SummitTime$Told" "paces" "[I") (by decide +kernel)) (fun _ h9 => h9) rfl dX6_walkOf_44 ?_
            refine lv_iload_n hx hb dX6_walkOf_47 rfl (lv_at hl 1 rfl) ?_
            refine va_iald (f := td.2.1) hx hb hK hP 5 0 rfl rfl (ix_l 6 (by decide) (by decide) c_1 c_2) dX6_walkOf_48 ?_
            exact J_3 _ (by rw [if_pos c_4, if_pos c_5])
          · refine lv_aload_n hx hb dX6_walkOf_32 rfl (lv_at hl 0 rfl) ?_
            refine va_get (D := D) (ci := 6) (v := .ref (ad 5)) (C := RX6) (T := TX6) (N := 7) hx hb hts (by decide +kernel) hown hK hP 3 rfl rfl 1 (by decide) (hts (.fieldLink RX6 15 "SummitTime$Told" "paces" "[I") (by decide +kernel)) (fun _ h9 => h9) rfl dX6_walkOf_33 ?_
            refine lv_iload_n hx hb dX6_walkOf_36 rfl (lv_at hl 1 rfl) ?_
            refine va_iald (f := td.2.1) hx hb hK hP 5 0 rfl rfl (ix_l 6 (by decide) (by decide) c_1 c_2) dX6_walkOf_37 ?_
            refine lv_iconst (v := nI 1) hx hb dX6_walkOf_38 rfl ?_
            refine lv_isub hx hb dX6_walkOf_39 ?_
            refine lv_goto (tgt := 49) hx hb dX6_walkOf_40 (by decide) ?_
            exact J_3 _ (by rw [if_pos c_4, if_neg c_5])
    · refine lv_iconst (v := nI 0) hx hb dX6_walkOf_10 rfl ?_
      have hf : (f_X6_walkOf td pa) = nI 0 := by rw [f_X6_walkOf, if_neg c_1, if_neg c_2]
      exact W.iret (v := nI 0) hx hb hr (fun t ht hW => ⟨nI 0, rfl, hf.symm, ht⟩) (fun _ h => by cases h) dX6_walkOf_11
def f_X6_tollOf (td : XTd) (pa : Int32) : Int32 := (if pa < 0 then nI 0 else (if pa < nI 6 then (if (td.1 pa.toNatClampNeg) = nI 3 then ((nI 2) * (td.2.2.2.1 pa.toNatClampNeg)) else (td.2.2.2.1 pa.toNatClampNeg)) else nI 0))
abbrev rm_X6_tollOf : Room := { frames := 0, cells := 0, slots := 0, locals := 0 }
set_option maxHeartbeats 4000000 in
set_option maxRecDepth 100000 in
theorem c_X6_tollOf (l : Launch) (D : va_G) (cI cL cZ : ClassId) (ad : Nat → Nat) (A : Nat → Prop) (tx : XTx) (td : XTd) (dr : XTd) (dy : XDy) (lb : (Nat → Int32)) (pn : (Nat × Nat)) (ps : XSh) (ks : XSh) (si : XSi) (kb : Int32) (pa : Int32)  : Met l yX6_tollOf wsX6_tollOf rm_X6_tollOf (va_Pc [.ref (ad 3), .int pa] (sR D cI cL cZ A (xW cI cL cZ ad tx td dr dy lb pn ps ks si kb))) (vp_Si (fun r => r = (f_X6_tollOf td pa))) 0 0 (fun _ => False) := by
  refine Met.ofW (cc := cX6_tollOf) (maxL := 2) (ret := (some .int)) (by decide) rfl ?_
  intro p e s m args below meth c s₁ B hml hv
  obtain ⟨rfl, hP, hK, hD, hE⟩ := hv
  have hx := B.exec
  have hb := B.bytes
  have hr := B.returns
  have hts := atoms_spec (ws := wsX6_tollOf) B.pre
  have hown : s.vm.findClass RX6 = some m.cls := findClass_of_methodNamed B.named
  have hlocks := B.notSynchronized
  have hl := lv_entry ([.ref (ad 3), .int pa]) (n := 2) (Nat.le_of_ble_eq_true rfl)
  rw [lg_entry_eq]
  generalize (lg_sl ([.ref (ad 3), .int pa]) ++ List.replicate (2 - (lg_sl ([.ref (ad 3), .int pa])).length) Slot.unset).toArray = ls at hl ⊢
  have hl : lv_has ls 2 [(0, .ref (ad 3)), (1, .int pa)] := hl
  refine lv_iload_n hx hb dX6_tollOf_0 rfl (lv_at hl 1 rfl) ?_
  refine lv_if_lt (tgt := 10) hx hb dX6_tollOf_1 (by decide) (fun c_1 => ?_) (fun c_1 => ?_)
  · refine lv_iconst (v := nI 0) hx hb dX6_tollOf_10 rfl ?_
    have hf : (f_X6_tollOf td pa) = nI 0 := by rw [f_X6_tollOf, if_pos c_1]
    exact W.iret (v := nI 0) hx hb hr (fun t ht hW => ⟨nI 0, rfl, hf.symm, ht⟩) (fun _ h => by cases h) dX6_tollOf_11
  · refine lv_iload_n hx hb dX6_tollOf_4 rfl (lv_at hl 1 rfl) ?_
    refine lv_bipush (v := nI 6) hx hb dX6_tollOf_5 rfl ?_
    refine lv_icmp_lt (tgt := 12) hx hb dX6_tollOf_7 (by decide) (fun c_2 => ?_) (fun c_2 => ?_)
    · refine lv_aload_n hx hb dX6_tollOf_12 rfl (lv_at hl 0 rfl) ?_
      refine va_get (D := D) (ci := 6) (v := .ref (ad 4)) (C := RX6) (T := TX6) (N := 7) hx hb hts (by decide +kernel) hown hK hP 3 rfl rfl 0 (by decide) (hts (.fieldLink RX6 9 "SummitTime$Told" "kinds" "[I") (by decide +kernel)) (fun _ h9 => h9) rfl dX6_tollOf_13 ?_
      refine lv_iload_n hx hb dX6_tollOf_16 rfl (lv_at hl 1 rfl) ?_
      refine va_iald (f := td.1) hx hb hK hP 4 0 rfl rfl (ix_l 6 (by decide) (by decide) c_1 c_2) dX6_tollOf_17 ?_
      refine lv_iconst (v := nI 3) hx hb dX6_tollOf_18 rfl ?_
      refine mv_phi (v := (if (td.1 pa.toNatClampNeg) = nI 3 then ((nI 2) * (td.2.2.2.1 pa.toNatClampNeg)) else (td.2.2.2.1 pa.toNatClampNeg))) (pcj := 39) (ls := ls) (rest' := []) ?_ (fun J_3 => ?_)
      · have hf : (f_X6_tollOf td pa) = (if (td.1 pa.toNatClampNeg) = nI 3 then ((nI 2) * (td.2.2.2.1 pa.toNatClampNeg)) else (td.2.2.2.1 pa.toNatClampNeg)) := by rw [f_X6_tollOf, if_neg c_1, if_pos c_2]
        exact W.iret (v := (if (td.1 pa.toNatClampNeg) = nI 3 then ((nI 2) * (td.2.2.2.1 pa.toNatClampNeg)) else (td.2.2.2.1 pa.toNatClampNeg))) hx hb hr (fun t ht hW => ⟨(if (td.1 pa.toNatClampNeg) = nI 3 then ((nI 2) * (td.2.2.2.1 pa.toNatClampNeg)) else (td.2.2.2.1 pa.toNatClampNeg)), rfl, hf.symm, ht⟩) (fun _ h => by cases h) dX6_tollOf_39
      · refine lv_icmp_ne (tgt := 33) hx hb dX6_tollOf_19 (by decide) (fun c_4 => ?_) (fun c_4 => ?_)
        · refine lv_aload_n hx hb dX6_tollOf_33 rfl (lv_at hl 0 rfl) ?_
          refine va_get (D := D) (ci := 6) (v := .ref (ad 7)) (C := RX6) (T := TX6) (N := 7) hx hb hts (by decide +kernel) hown hK hP 3 rfl rfl 3 (by decide) (hts (.fieldLink RX6 21 "SummitTime$Told" "rents" "[I") (by decide +kernel)) (fun _ h9 => h9) rfl dX6_tollOf_34 ?_
          refine lv_iload_n hx hb dX6_tollOf_37 rfl (lv_at hl 1 rfl) ?_
          refine va_iald (f := td.2.2.2.1) hx hb hK hP 7 0 rfl rfl (ix_l 6 (by decide) (by decide) c_1 c_2) dX6_tollOf_38 ?_
          exact J_3 _ (by rw [if_neg c_4])
        · refine lv_iconst (v := nI 2) hx hb dX6_tollOf_22 rfl ?_
          refine lv_aload_n hx hb dX6_tollOf_23 rfl (lv_at hl 0 rfl) ?_
          refine va_get (D := D) (ci := 6) (v := .ref (ad 7)) (C := RX6) (T := TX6) (N := 7) hx hb hts (by decide +kernel) hown hK hP 3 rfl rfl 3 (by decide) (hts (.fieldLink RX6 21 "SummitTime$Told" "rents" "[I") (by decide +kernel)) (fun _ h9 => h9) rfl dX6_tollOf_24 ?_
          refine lv_iload_n hx hb dX6_tollOf_27 rfl (lv_at hl 1 rfl) ?_
          refine va_iald (f := td.2.2.2.1) hx hb hK hP 7 0 rfl rfl (ix_l 6 (by decide) (by decide) c_1 c_2) dX6_tollOf_28 ?_
          refine lv_imul hx hb dX6_tollOf_29 ?_
          refine lv_goto (tgt := 39) hx hb dX6_tollOf_30 (by decide) ?_
          exact J_3 _ (by rw [if_pos c_4])
    · refine lv_iconst (v := nI 0) hx hb dX6_tollOf_10 rfl ?_
      have hf : (f_X6_tollOf td pa) = nI 0 := by rw [f_X6_tollOf, if_neg c_1, if_neg c_2]
      exact W.iret (v := nI 0) hx hb hr (fun t ht hW => ⟨nI 0, rfl, hf.symm, ht⟩) (fun _ h => by cases h) dX6_tollOf_11
def f_X6_deedOf (td : XTd) (pa : Int32) : Int64 := (if pa < 0 then (0 : Int64) else (if nI 6 ≤ pa then (0 : Int64) else (td.2.2.2.2.1 pa.toNatClampNeg)))
abbrev rm_X6_deedOf : Room := { frames := 0, cells := 0, slots := 0, locals := 0 }
set_option maxHeartbeats 4000000 in
set_option maxRecDepth 100000 in
theorem c_X6_deedOf (l : Launch) (D : va_G) (cI cL cZ : ClassId) (ad : Nat → Nat) (A : Nat → Prop) (tx : XTx) (td : XTd) (dr : XTd) (dy : XDy) (lb : (Nat → Int32)) (pn : (Nat × Nat)) (ps : XSh) (ks : XSh) (si : XSi) (kb : Int32) (pa : Int32)  : Met l yX6_deedOf wsX6_deedOf rm_X6_deedOf (va_Pc [.ref (ad 3), .int pa] (sR D cI cL cZ A (xW cI cL cZ ad tx td dr dy lb pn ps ks si kb))) (vp_Sl (fun r => r = (f_X6_deedOf td pa))) 0 0 (fun _ => False) := by
  refine Met.ofW (cc := cX6_deedOf) (maxL := 2) (ret := (some .long)) (by decide) rfl ?_
  intro p e s m args below meth c s₁ B hml hv
  obtain ⟨rfl, hP, hK, hD, hE⟩ := hv
  have hx := B.exec
  have hb := B.bytes
  have hr := B.returns
  have hts := atoms_spec (ws := wsX6_deedOf) B.pre
  have hown : s.vm.findClass RX6 = some m.cls := findClass_of_methodNamed B.named
  have hlocks := B.notSynchronized
  have hl := lv_entry ([.ref (ad 3), .int pa]) (n := 2) (Nat.le_of_ble_eq_true rfl)
  rw [lg_entry_eq]
  generalize (lg_sl ([.ref (ad 3), .int pa]) ++ List.replicate (2 - (lg_sl ([.ref (ad 3), .int pa])).length) Slot.unset).toArray = ls at hl ⊢
  have hl : lv_has ls 2 [(0, .ref (ad 3)), (1, .int pa)] := hl
  refine lv_iload_n hx hb dX6_deedOf_0 rfl (lv_at hl 1 rfl) ?_
  refine mv_phil (v := (if pa < 0 then (0 : Int64) else (if nI 6 ≤ pa then (0 : Int64) else (td.2.2.2.2.1 pa.toNatClampNeg)))) (pcj := 20) (ls := ls) (rest' := []) ?_ (fun J_1 => ?_)
  · have hf : (f_X6_deedOf td pa) = (if pa < 0 then (0 : Int64) else (if nI 6 ≤ pa then (0 : Int64) else (td.2.2.2.2.1 pa.toNatClampNeg))) := by rw [f_X6_deedOf]
    exact W.lret (v := (if pa < 0 then (0 : Int64) else (if nI 6 ≤ pa then (0 : Int64) else (td.2.2.2.2.1 pa.toNatClampNeg)))) hx hb hr (fun t ht hW => ⟨(if pa < 0 then (0 : Int64) else (if nI 6 ≤ pa then (0 : Int64) else (td.2.2.2.2.1 pa.toNatClampNeg))), rfl, hf.symm, ht⟩) (fun _ h => by cases h) dX6_deedOf_20
  · refine lv_if_lt (tgt := 19) hx hb dX6_deedOf_1 (by decide) (fun c_2 => ?_) (fun c_2 => ?_)
    · refine lv_lconst (v := 0) hx hb dX6_deedOf_19 rfl ?_
      exact J_1 _ (by rw [if_pos c_2])
    · refine lv_iload_n hx hb dX6_deedOf_4 rfl (lv_at hl 1 rfl) ?_
      refine lv_bipush (v := nI 6) hx hb dX6_deedOf_5 rfl ?_
      refine lv_icmp_ge (tgt := 19) hx hb dX6_deedOf_7 (by decide) (fun c_3 => ?_) (fun c_3 => ?_)
      · refine lv_lconst (v := 0) hx hb dX6_deedOf_19 rfl ?_
        exact J_1 _ (by rw [if_neg c_2, if_pos c_3])
      · refine lv_aload_n hx hb dX6_deedOf_10 rfl (lv_at hl 0 rfl) ?_
        refine va_get (D := D) (ci := 6) (v := .ref (ad 8)) (C := RX6) (T := TX6) (N := 7) hx hb hts (by decide +kernel) hown hK hP 3 rfl rfl 4 (by decide) (hts (.fieldLink RX6 24 "SummitTime$Told" "deeds" "[J") (by decide +kernel)) (fun _ h9 => h9) rfl dX6_deedOf_11 ?_
        refine lv_iload_n hx hb dX6_deedOf_14 rfl (lv_at hl 1 rfl) ?_
        refine va_lald (f := td.2.2.2.2.1) hx hb hK hP 8 1 rfl rfl (ix_g 6 (by decide) (by decide) c_2 c_3) dX6_deedOf_15 ?_
        refine lv_goto (tgt := 20) hx hb dX6_deedOf_16 (by decide) ?_
        exact J_1 _ (by rw [if_neg c_2, if_neg c_3])
def f_X6_knows (td : XTd) (pa : Int32) : Int32 := (if pa < 0 then nI 0 else (if nI td.2.2.2.2.2.1 ≤ pa then nI 0 else (if nI 6 ≤ pa then nI 0 else nI 1)))
theorem f_X6_knows_b (td : XTd) (pa : Int32) : (f_X6_knows td pa) = nI 0 ∨ (f_X6_knows td pa) = nI 1 := by
  unfold f_X6_knows
  (repeat' split) <;> first | exact Or.inl rfl | exact Or.inr rfl | exact f_X8_in_b _ _ _
abbrev rm_X6_knows : Room := { frames := 0, cells := 0, slots := 0, locals := 0 }
set_option maxHeartbeats 4000000 in
set_option maxRecDepth 100000 in
theorem c_X6_knows (l : Launch) (D : va_G) (cI cL cZ : ClassId) (ad : Nat → Nat) (A : Nat → Prop) (tx : XTx) (td : XTd) (dr : XTd) (dy : XDy) (lb : (Nat → Int32)) (pn : (Nat × Nat)) (ps : XSh) (ks : XSh) (si : XSi) (kb : Int32) (pa : Int32)  : Met l yX6_knows wsX6_knows rm_X6_knows (va_Pc [.ref (ad 3), .int pa] (sR D cI cL cZ A (xW cI cL cZ ad tx td dr dy lb pn ps ks si kb))) (vp_Si (fun r => r = (f_X6_knows td pa))) 0 0 (fun _ => False) := by
  refine Met.ofW (cc := cX6_knows) (maxL := 2) (ret := (some .boolean)) (by decide) rfl ?_
  intro p e s m args below meth c s₁ B hml hv
  obtain ⟨rfl, hP, hK, hD, hE⟩ := hv
  have hx := B.exec
  have hb := B.bytes
  have hr := B.returns
  have hts := atoms_spec (ws := wsX6_knows) B.pre
  have hown : s.vm.findClass RX6 = some m.cls := findClass_of_methodNamed B.named
  have hlocks := B.notSynchronized
  have hl := lv_entry ([.ref (ad 3), .int pa]) (n := 2) (Nat.le_of_ble_eq_true rfl)
  rw [lg_entry_eq]
  generalize (lg_sl ([.ref (ad 3), .int pa]) ++ List.replicate (2 - (lg_sl ([.ref (ad 3), .int pa])).length) Slot.unset).toArray = ls at hl ⊢
  have hl : lv_has ls 2 [(0, .ref (ad 3)), (1, .int pa)] := hl
  refine lv_iload_n hx hb dX6_knows_0 rfl (lv_at hl 1 rfl) ?_
  refine mv_phi (v := (if pa < 0 then nI 0 else (if nI td.2.2.2.2.2.1 ≤ pa then nI 0 else (if nI 6 ≤ pa then nI 0 else nI 1)))) (pcj := 23) (ls := ls) (rest' := []) ?_ (fun J_1 => ?_)
  · have hf : (f_X6_knows td pa) = (if pa < 0 then nI 0 else (if nI td.2.2.2.2.2.1 ≤ pa then nI 0 else (if nI 6 ≤ pa then nI 0 else nI 1))) := by rw [f_X6_knows]
    exact W.zret (v := (if pa < 0 then nI 0 else (if nI td.2.2.2.2.2.1 ≤ pa then nI 0 else (if nI 6 ≤ pa then nI 0 else nI 1)))) (ty := .boolean) hx hb hr (by (repeat' split) <;> rfl) (fun t ht hW => ⟨(if pa < 0 then nI 0 else (if nI td.2.2.2.2.2.1 ≤ pa then nI 0 else (if nI 6 ≤ pa then nI 0 else nI 1))), rfl, hf.symm, ht⟩) (fun _ h => by cases h) dX6_knows_23
  · refine lv_if_lt (tgt := 22) hx hb dX6_knows_1 (by decide) (fun c_2 => ?_) (fun c_2 => ?_)
    · refine lv_iconst (v := nI 0) hx hb dX6_knows_22 rfl ?_
      exact J_1 _ (by rw [if_pos c_2])
    · refine lv_iload_n hx hb dX6_knows_4 rfl (lv_at hl 1 rfl) ?_
      refine lv_aload_n hx hb dX6_knows_5 rfl (lv_at hl 0 rfl) ?_
      refine va_get (D := D) (ci := 6) (v := .int (nI td.2.2.2.2.2.1)) (C := RX6) (T := TX6) (N := 7) hx hb hts (by decide +kernel) hown hK hP 3 rfl rfl 5 (by decide) (hts (.fieldLink RX6 28 "SummitTime$Told" "people" "I") (by decide +kernel)) (fun _ h9 => h9) rfl dX6_knows_6 ?_
      refine lv_icmp_ge (tgt := 22) hx hb dX6_knows_9 (by decide) (fun c_3 => ?_) (fun c_3 => ?_)
      · refine lv_iconst (v := nI 0) hx hb dX6_knows_22 rfl ?_
        exact J_1 _ (by rw [if_neg c_2, if_pos c_3])
      · refine lv_iload_n hx hb dX6_knows_12 rfl (lv_at hl 1 rfl) ?_
        refine lv_bipush (v := nI 6) hx hb dX6_knows_13 rfl ?_
        refine lv_icmp_ge (tgt := 22) hx hb dX6_knows_15 (by decide) (fun c_4 => ?_) (fun c_4 => ?_)
        · refine lv_iconst (v := nI 0) hx hb dX6_knows_22 rfl ?_
          exact J_1 _ (by rw [if_neg c_2, if_neg c_3, if_pos c_4])
        · refine lv_iconst (v := nI 1) hx hb dX6_knows_18 rfl ?_
          refine lv_goto (tgt := 23) hx hb dX6_knows_19 (by decide) ?_
          exact J_1 _ (by rw [if_neg c_2, if_neg c_3, if_neg c_4])
def f_X6_everybody (td : XTd) : Int32 := (((nI 1) <<< ((nI td.2.2.2.2.2.1) &&& 31)) - (nI 1))
abbrev rm_X6_everybody : Room := { frames := 0, cells := 0, slots := 0, locals := 0 }
set_option maxHeartbeats 4000000 in
set_option maxRecDepth 100000 in
theorem c_X6_everybody (l : Launch) (D : va_G) (cI cL cZ : ClassId) (ad : Nat → Nat) (A : Nat → Prop) (tx : XTx) (td : XTd) (dr : XTd) (dy : XDy) (lb : (Nat → Int32)) (pn : (Nat × Nat)) (ps : XSh) (ks : XSh) (si : XSi) (kb : Int32)   : Met l yX6_everybody wsX6_everybody rm_X6_everybody (va_Pc [.ref (ad 3)] (sR D cI cL cZ A (xW cI cL cZ ad tx td dr dy lb pn ps ks si kb))) (vp_Si (fun r => r = (f_X6_everybody td))) 0 0 (fun _ => False) := by
  refine Met.ofW (cc := cX6_everybody) (maxL := 1) (ret := (some .int)) (by decide) rfl ?_
  intro p e s m args below meth c s₁ B hml hv
  obtain ⟨rfl, hP, hK, hD, hE⟩ := hv
  have hx := B.exec
  have hb := B.bytes
  have hr := B.returns
  have hts := atoms_spec (ws := wsX6_everybody) B.pre
  have hown : s.vm.findClass RX6 = some m.cls := findClass_of_methodNamed B.named
  have hlocks := B.notSynchronized
  have hl := lv_entry ([.ref (ad 3)]) (n := 1) (Nat.le_of_ble_eq_true rfl)
  rw [lg_entry_eq]
  generalize (lg_sl ([.ref (ad 3)]) ++ List.replicate (1 - (lg_sl ([.ref (ad 3)])).length) Slot.unset).toArray = ls at hl ⊢
  have hl : lv_has ls 1 [(0, .ref (ad 3))] := hl
  refine lv_iconst (v := nI 1) hx hb dX6_everybody_0 rfl ?_
  refine lv_aload_n hx hb dX6_everybody_1 rfl (lv_at hl 0 rfl) ?_
  refine va_get (D := D) (ci := 6) (v := .int (nI td.2.2.2.2.2.1)) (C := RX6) (T := TX6) (N := 7) hx hb hts (by decide +kernel) hown hK hP 3 rfl rfl 5 (by decide) (hts (.fieldLink RX6 28 "SummitTime$Told" "people" "I") (by decide +kernel)) (fun _ h9 => h9) rfl dX6_everybody_2 ?_
  refine lv_ishl hx hb dX6_everybody_5 ?_
  refine lv_iconst (v := nI 1) hx hb dX6_everybody_6 rfl ?_
  refine lv_isub hx hb dX6_everybody_7 ?_
  have hf : (f_X6_everybody td) = (((nI 1) <<< ((nI td.2.2.2.2.2.1) &&& 31)) - (nI 1)) := by rw [f_X6_everybody]
  exact W.iret (v := (((nI 1) <<< ((nI td.2.2.2.2.2.1) &&& 31)) - (nI 1))) hx hb hr (fun t ht hW => ⟨(((nI 1) <<< ((nI td.2.2.2.2.2.1) &&& 31)) - (nI 1)), rfl, hf.symm, ht⟩) (fun _ h => by cases h) dX6_everybody_8
def L_X6_copyFrom_d_2 (td : XTd) : Nat → Nat → (Nat → Int32) → (Nat → Int32) → (Nat → Int32) → (Nat → Int32) → (Nat → Int64) → (Nat → Int32) × (Nat → Int32) × (Nat → Int32) × (Nat → Int32) × (Nat → Int64)
  | 0, _, wdr0_2, wdr1_2, wdr2_2, wdr3_2, wdr4_2 => (wdr0_2, wdr1_2, wdr2_2, wdr3_2, wdr4_2)
  | n_2 + 1, k_2, wdr0_2, wdr1_2, wdr2_2, wdr3_2, wdr4_2 => (L_X6_copyFrom_d_2 td n_2 (k_2 + 1) (upd wdr0_2 k_2 (td.1 k_2)) (upd wdr1_2 k_2 (td.2.1 k_2)) (upd wdr2_2 k_2 (td.2.2.1 k_2)) (upd wdr3_2 k_2 (td.2.2.2.1 k_2)) (vp_updL wdr4_2 k_2 (td.2.2.2.2.1 k_2)))
def f_X6_copyFrom_d (td : XTd) (dr : XTd) : XTd := ((L_X6_copyFrom_d_2 td 6 0 dr.1 dr.2.1 dr.2.2.1 dr.2.2.2.1 dr.2.2.2.2.1).1, (L_X6_copyFrom_d_2 td 6 0 dr.1 dr.2.1 dr.2.2.1 dr.2.2.2.1 dr.2.2.2.2.1).2.1, (L_X6_copyFrom_d_2 td 6 0 dr.1 dr.2.1 dr.2.2.1 dr.2.2.2.1 dr.2.2.2.2.1).2.2.1, (L_X6_copyFrom_d_2 td 6 0 dr.1 dr.2.1 dr.2.2.1 dr.2.2.2.1 dr.2.2.2.2.1).2.2.2.1, (L_X6_copyFrom_d_2 td 6 0 dr.1 dr.2.1 dr.2.2.1 dr.2.2.2.1 dr.2.2.2.2.1).2.2.2.2, td.2.2.2.2.2.1, td.2.2.2.2.2.2)
abbrev rm_X6_copyFrom_d : Room := { frames := 0, cells := 0, slots := 0, locals := 0 }
set_option maxHeartbeats 4000000 in
set_option maxRecDepth 100000 in
theorem c_X6_copyFrom_d (l : Launch) (D : va_G) (cI cL cZ : ClassId) (ad : Nat → Nat) (A : Nat → Prop) (tx : XTx) (td : XTd) (dr : XTd) (dy : XDy) (lb : (Nat → Int32)) (pn : (Nat × Nat)) (ps : XSh) (ks : XSh) (si : XSi) (kb : Int32)   : Met l yX6_copyFrom wsX6_copyFrom rm_X6_copyFrom_d (va_Pc [.ref (ad 9), .ref (ad 3)] (sR D cI cL cZ A (xW cI cL cZ ad tx td dr dy lb pn ps ks si kb))) (va_Qv (fun (u : XTd) => u = (f_X6_copyFrom_d td dr)) (fun (u : XTd) t => va_P D vwCl (xW cI cL cZ ad tx td u dy lb pn ps ks si kb) t.heap) A) 0 0 A := by
  refine Met.ofW (cc := cX6_copyFrom) (maxL := 3) (ret := none) (by decide) rfl ?_
  intro p e s m args below meth c s₁ B hml hv
  obtain ⟨rfl, hP, hK, hD, hE⟩ := hv
  have hx := B.exec
  have hb := B.bytes
  have hr := B.returns
  have hts := atoms_spec (ws := wsX6_copyFrom) B.pre
  have hown : s.vm.findClass RX6 = some m.cls := findClass_of_methodNamed B.named
  have hlocks := B.notSynchronized
  have hS : va_S A s.heap s.heap [] := va_S.rf
  have hl := lv_entry ([.ref (ad 9), .ref (ad 3)]) (n := 3) (Nat.le_of_ble_eq_true rfl)
  rw [lg_entry_eq]
  generalize (lg_sl ([.ref (ad 9), .ref (ad 3)]) ++ List.replicate (3 - (lg_sl ([.ref (ad 9), .ref (ad 3)])).length) Slot.unset).toArray = ls at hl ⊢
  have hl : lv_has ls 3 [(0, .ref (ad 9)), (1, .ref (ad 3))] := hl
  obtain ⟨Q, hQe⟩ : ∃ Q, Q = MQ below (va_Qv (fun (u : XTd) => u = (f_X6_copyFrom_d td dr)) (fun (u : XTd) t => va_P D vwCl (xW cI cL cZ ad tx td u dy lb pn ps ks si kb) t.heap) A) ([.ref (ad 9), .ref (ad 3)] : List Value).toArray s 0 0 A := ⟨_, rfl⟩
  show W p l e (headSpec wsX6_copyFrom rm_X6_copyFrom_d).room s m ([.ref (ad 9), .ref (ad 3)] : List Value).toArray below meth c s.heap [] 0 0 (MQ below (va_Qv (fun (u : XTd) => u = (f_X6_copyFrom_d td dr)) (fun (u : XTd) t => va_P D vwCl (xW cI cL cZ ad tx td u dy lb pn ps ks si kb) t.heap) A) ([.ref (ad 9), .ref (ad 3)] : List Value).toArray s 0 0 A) (F0 m 0 ls [])
  rw [← hQe]
  refine lv_iconst (v := nI 0) hx hb dX6_copyFrom_0 rfl ?_
  refine lv_istore_n (lv' := [(2, .int (nI 0)), (0, .ref (ad 9)), (1, .ref (ad 3))]) hx hb dX6_copyFrom_1 rfl hl (by decide) rfl (fun ls hl => ?_)
  obtain ⟨T_2_1, hT_2_1⟩ : ∃ z, z = (L_X6_copyFrom_d_2 td 6 0 dr.1 dr.2.1 dr.2.2.1 dr.2.2.2.1 dr.2.2.2.2.1) := ⟨_, rfl⟩
  have hexit_2 : ∀ (H : Heap) (locs : List Loc) (ls : Array Slot), va_P D vwCl (xW cI cL cZ ad tx td (T_2_1.1, T_2_1.2.1, T_2_1.2.2.1, T_2_1.2.2.2.1, T_2_1.2.2.2.2, dr.2.2.2.2.2.1, dr.2.2.2.2.2.2) dy lb pn ps ks si kb) H → va_S A s.heap H locs → lv_has ls 3 [(0, .ref (ad 9)), (1, .ref (ad 3))] → W p l e (headSpec wsX6_copyFrom rm_X6_copyFrom_d).room s m ([.ref (ad 9), .ref (ad 3)] : List Value).toArray below meth c H locs 0 0 Q (F0 m 74 ls []) := by
    intro H locs ls hP hS hl
    have hD : va_D A (xW cI cL cZ ad tx td (T_2_1.1, T_2_1.2.1, T_2_1.2.2.1, T_2_1.2.2.2.1, T_2_1.2.2.2.2, dr.2.2.2.2.2.1, dr.2.2.2.2.2.2) dy lb pn ps ks si kb) := xW_D hD
    refine lv_aload_n hx hb dX6_copyFrom_74 rfl (lv_at hl 0 rfl) ?_
    refine lv_aload_n hx hb dX6_copyFrom_75 rfl (lv_at hl 1 rfl) ?_
    refine va_get (D := D) (ci := 6) (v := .int (nI td.2.2.2.2.2.1)) (C := RX6) (T := TX6) (N := 7) hx hb hts (by decide +kernel) hown hK hP 3 rfl rfl 5 (by decide) (hts (.fieldLink RX6 28 "SummitTime$Told" "people" "I") (by decide +kernel)) (fun _ h9 => h9) rfl dX6_copyFrom_76 ?_
    refine va_put (D := D) (ci := 6) (v := .int (nI td.2.2.2.2.2.1)) (ty := .int) (C := RX6) (T := TX6) (N := 7) hx hb hts (by decide +kernel) tyX6 tyX6_ok nmX6 hown hK hP hD hS 9 rfl rfl 5 (by decide) (hts (.fieldLink RX6 28 "SummitTime$Told" "people" "I") (by decide +kernel)) (fun _ h9 => h9) rfl (by decide +kernel) rfl rfl (Nat.le_of_ble_eq_true rfl) dX6_copyFrom_79 (fun H locs hP hD hS => ?_)
    have hP : va_P D vwCl (xW cI cL cZ ad tx td (T_2_1.1, T_2_1.2.1, T_2_1.2.2.1, T_2_1.2.2.2.1, T_2_1.2.2.2.2, td.2.2.2.2.2.1, dr.2.2.2.2.2.2) dy lb pn ps ks si kb) H := hP
    have hD : va_D A (xW cI cL cZ ad tx td (T_2_1.1, T_2_1.2.1, T_2_1.2.2.1, T_2_1.2.2.2.1, T_2_1.2.2.2.2, td.2.2.2.2.2.1, dr.2.2.2.2.2.2) dy lb pn ps ks si kb) := hD
    refine lv_aload_n hx hb dX6_copyFrom_82 rfl (lv_at hl 0 rfl) ?_
    refine lv_aload_n hx hb dX6_copyFrom_83 rfl (lv_at hl 1 rfl) ?_
    refine va_get (D := D) (ci := 6) (v := .long td.2.2.2.2.2.2) (C := RX6) (T := TX6) (N := 7) hx hb hts (by decide +kernel) hown hK hP 3 rfl rfl 6 (by decide) (hts (.fieldLink RX6 32 "SummitTime$Told" "clouds" "J") (by decide +kernel)) (fun _ h9 => h9) rfl dX6_copyFrom_84 ?_
    refine va_put (D := D) (ci := 6) (v := .long td.2.2.2.2.2.2) (ty := .long) (C := RX6) (T := TX6) (N := 7) hx hb hts (by decide +kernel) tyX6 tyX6_ok nmX6 hown hK hP hD hS 9 rfl rfl 6 (by decide) (hts (.fieldLink RX6 32 "SummitTime$Told" "clouds" "J") (by decide +kernel)) (fun _ h9 => h9) rfl (by decide +kernel) rfl rfl (Nat.le_of_ble_eq_true rfl) dX6_copyFrom_87 (fun H locs hP hD hS => ?_)
    have hP : va_P D vwCl (xW cI cL cZ ad tx td (T_2_1.1, T_2_1.2.1, T_2_1.2.2.1, T_2_1.2.2.2.1, T_2_1.2.2.2.2, td.2.2.2.2.2.1, td.2.2.2.2.2.2) dy lb pn ps ks si kb) H := hP
    have hD : va_D A (xW cI cL cZ ad tx td (T_2_1.1, T_2_1.2.1, T_2_1.2.2.1, T_2_1.2.2.2.1, T_2_1.2.2.2.2, td.2.2.2.2.2.1, td.2.2.2.2.2.2) dy lb pn ps ks si kb) := hD
    subst hQe
    have hf : (f_X6_copyFrom_d td dr) = (T_2_1.1, T_2_1.2.1, T_2_1.2.2.1, T_2_1.2.2.2.1, T_2_1.2.2.2.2, td.2.2.2.2.2.1, td.2.2.2.2.2.2) := by rw [f_X6_copyFrom_d]; (try rw [← hT_2_1]); first | done | rfl
    exact W.vret hx hb hr (fun t ht hW => ⟨⟨(T_2_1.1, T_2_1.2.1, T_2_1.2.2.1, T_2_1.2.2.2.1, T_2_1.2.2.2.2, td.2.2.2.2.2.1, td.2.2.2.2.2.2), rfl, hf.symm, va_Pt ht hP⟩, hS.F ht⟩) hS.2.2 dX6_copyFrom_90
  have loop_2 : ∀ (n_2 : Nat) (k_2 : Nat) (wdr0_2 : Nat → Int32) (wdr1_2 : Nat → Int32) (wdr2_2 : Nat → Int32) (wdr3_2 : Nat → Int32) (wdr4_2 : Nat → Int64), (k_2 + n_2 = 6) → L_X6_copyFrom_d_2 td n_2 k_2 wdr0_2 wdr1_2 wdr2_2 wdr3_2 wdr4_2 = T_2_1 → ∀ (H : Heap) (locs : List Loc) (ls : Array Slot), va_P D vwCl (xW cI cL cZ ad tx td (wdr0_2, wdr1_2, wdr2_2, wdr3_2, wdr4_2, dr.2.2.2.2.2.1, dr.2.2.2.2.2.2) dy lb pn ps ks si kb) H → va_S A s.heap H locs → lv_has ls 3 [(2, .int (nI k_2)), (0, .ref (ad 9)), (1, .ref (ad 3))] → W p l e (headSpec wsX6_copyFrom rm_X6_copyFrom_d).room s m ([.ref (ad 9), .ref (ad 3)] : List Value).toArray below meth c H locs 0 0 Q (F0 m 2 ls []) := by
    intro n_2
    induction n_2 with
    | zero =>
      intro k_2 wdr0_2 wdr1_2 wdr2_2 wdr3_2 wdr4_2 hk_2 hL_2 H locs ls hP hS hl
      have hD : va_D A (xW cI cL cZ ad tx td (wdr0_2, wdr1_2, wdr2_2, wdr3_2, wdr4_2, dr.2.2.2.2.2.1, dr.2.2.2.2.2.2) dy lb pn ps ks si kb) := xW_D hD
      refine lv_iload_n hx hb dX6_copyFrom_2 rfl (lv_at hl 0 rfl) ?_
      refine lv_bipush (v := nI 6) hx hb dX6_copyFrom_3 rfl ?_
      refine mv_icmp_ge (tgt := 74) hx hb dX6_copyFrom_5 (by decide) (by omega) (by decide) (fun c_2 => ?_) (fun c_2 => (by omega : False).elim)
      have e9 : T_2_1 = (wdr0_2, wdr1_2, wdr2_2, wdr3_2, wdr4_2) := by rw [← hL_2, L_X6_copyFrom_d_2]
      have hq := hexit_2
      rw [e9] at hq
      exact hq _ _ ls  hP hS (lv_sub hl [1, 2] rfl)
    | succ n_2 ih_2 =>
      intro k_2 wdr0_2 wdr1_2 wdr2_2 wdr3_2 wdr4_2 hk_2 hL_2 H locs ls hP hS hl
      have hD : va_D A (xW cI cL cZ ad tx td (wdr0_2, wdr1_2, wdr2_2, wdr3_2, wdr4_2, dr.2.2.2.2.2.1, dr.2.2.2.2.2.2) dy lb pn ps ks si kb) := xW_D hD
      refine lv_iload_n hx hb dX6_copyFrom_2 rfl (lv_at hl 0 rfl) ?_
      refine lv_bipush (v := nI 6) hx hb dX6_copyFrom_3 rfl ?_
      refine mv_icmp_ge (tgt := 74) hx hb dX6_copyFrom_5 (by decide) (by omega) (by decide) (fun c_1 => (by omega : False).elim) (fun c_1 => ?_)
      refine lv_aload_n hx hb dX6_copyFrom_8 rfl (lv_at hl 1 rfl) ?_
      refine va_get (D := D) (ci := 6) (v := .ref (ad 10)) (C := RX6) (T := TX6) (N := 7) hx hb hts (by decide +kernel) hown hK hP 9 rfl rfl 0 (by decide) (hts (.fieldLink RX6 9 "SummitTime$Told" "kinds" "[I") (by decide +kernel)) (fun _ h9 => h9) rfl dX6_copyFrom_9 ?_
      refine lv_iload_n hx hb dX6_copyFrom_12 rfl (lv_at hl 0 rfl) ?_
      refine lv_aload_n hx hb dX6_copyFrom_13 rfl (lv_at hl 2 rfl) ?_
      refine va_get (D := D) (ci := 6) (v := .ref (ad 4)) (C := RX6) (T := TX6) (N := 7) hx hb hts (by decide +kernel) hown hK hP 3 rfl rfl 0 (by decide) (hts (.fieldLink RX6 9 "SummitTime$Told" "kinds" "[I") (by decide +kernel)) (fun _ h9 => h9) rfl dX6_copyFrom_14 ?_
      refine lv_iload_n hx hb dX6_copyFrom_17 rfl (lv_at hl 0 rfl) ?_
      refine mv_iald (f := td.1) hx hb hK hP 4 0 rfl rfl (by omega) (by decide) dX6_copyFrom_18 ?_
      refine mv_iast (f := wdr0_2) hx hb hK hP hD hS 10 0 rfl rfl (by omega) (by decide) dX6_copyFrom_19 (fun H locs hP hD hS => ?_)
      have hP : va_P D vwCl (xW cI cL cZ ad tx td ((upd wdr0_2 k_2 (td.1 k_2)), wdr1_2, wdr2_2, wdr3_2, wdr4_2, dr.2.2.2.2.2.1, dr.2.2.2.2.2.2) dy lb pn ps ks si kb) H := hP
      have hD : va_D A (xW cI cL cZ ad tx td ((upd wdr0_2 k_2 (td.1 k_2)), wdr1_2, wdr2_2, wdr3_2, wdr4_2, dr.2.2.2.2.2.1, dr.2.2.2.2.2.2) dy lb pn ps ks si kb) := hD
      refine lv_aload_n hx hb dX6_copyFrom_20 rfl (lv_at hl 1 rfl) ?_
      refine va_get (D := D) (ci := 6) (v := .ref (ad 11)) (C := RX6) (T := TX6) (N := 7) hx hb hts (by decide +kernel) hown hK hP 9 rfl rfl 1 (by decide) (hts (.fieldLink RX6 15 "SummitTime$Told" "paces" "[I") (by decide +kernel)) (fun _ h9 => h9) rfl dX6_copyFrom_21 ?_
      refine lv_iload_n hx hb dX6_copyFrom_24 rfl (lv_at hl 0 rfl) ?_
      refine lv_aload_n hx hb dX6_copyFrom_25 rfl (lv_at hl 2 rfl) ?_
      refine va_get (D := D) (ci := 6) (v := .ref (ad 5)) (C := RX6) (T := TX6) (N := 7) hx hb hts (by decide +kernel) hown hK hP 3 rfl rfl 1 (by decide) (hts (.fieldLink RX6 15 "SummitTime$Told" "paces" "[I") (by decide +kernel)) (fun _ h9 => h9) rfl dX6_copyFrom_26 ?_
      refine lv_iload_n hx hb dX6_copyFrom_29 rfl (lv_at hl 0 rfl) ?_
      refine mv_iald (f := td.2.1) hx hb hK hP 5 0 rfl rfl (by omega) (by decide) dX6_copyFrom_30 ?_
      refine mv_iast (f := wdr1_2) hx hb hK hP hD hS 11 0 rfl rfl (by omega) (by decide) dX6_copyFrom_31 (fun H locs hP hD hS => ?_)
      have hP : va_P D vwCl (xW cI cL cZ ad tx td ((upd wdr0_2 k_2 (td.1 k_2)), (upd wdr1_2 k_2 (td.2.1 k_2)), wdr2_2, wdr3_2, wdr4_2, dr.2.2.2.2.2.1, dr.2.2.2.2.2.2) dy lb pn ps ks si kb) H := hP
      have hD : va_D A (xW cI cL cZ ad tx td ((upd wdr0_2 k_2 (td.1 k_2)), (upd wdr1_2 k_2 (td.2.1 k_2)), wdr2_2, wdr3_2, wdr4_2, dr.2.2.2.2.2.1, dr.2.2.2.2.2.2) dy lb pn ps ks si kb) := hD
      refine lv_aload_n hx hb dX6_copyFrom_32 rfl (lv_at hl 1 rfl) ?_
      refine va_get (D := D) (ci := 6) (v := .ref (ad 12)) (C := RX6) (T := TX6) (N := 7) hx hb hts (by decide +kernel) hown hK hP 9 rfl rfl 2 (by decide) (hts (.fieldLink RX6 18 "SummitTime$Told" "stayings" "[I") (by decide +kernel)) (fun _ h9 => h9) rfl dX6_copyFrom_33 ?_
      refine lv_iload_n hx hb dX6_copyFrom_36 rfl (lv_at hl 0 rfl) ?_
      refine lv_aload_n hx hb dX6_copyFrom_37 rfl (lv_at hl 2 rfl) ?_
      refine va_get (D := D) (ci := 6) (v := .ref (ad 6)) (C := RX6) (T := TX6) (N := 7) hx hb hts (by decide +kernel) hown hK hP 3 rfl rfl 2 (by decide) (hts (.fieldLink RX6 18 "SummitTime$Told" "stayings" "[I") (by decide +kernel)) (fun _ h9 => h9) rfl dX6_copyFrom_38 ?_
      refine lv_iload_n hx hb dX6_copyFrom_41 rfl (lv_at hl 0 rfl) ?_
      refine mv_iald (f := td.2.2.1) hx hb hK hP 6 0 rfl rfl (by omega) (by decide) dX6_copyFrom_42 ?_
      refine mv_iast (f := wdr2_2) hx hb hK hP hD hS 12 0 rfl rfl (by omega) (by decide) dX6_copyFrom_43 (fun H locs hP hD hS => ?_)
      have hP : va_P D vwCl (xW cI cL cZ ad tx td ((upd wdr0_2 k_2 (td.1 k_2)), (upd wdr1_2 k_2 (td.2.1 k_2)), (upd wdr2_2 k_2 (td.2.2.1 k_2)), wdr3_2, wdr4_2, dr.2.2.2.2.2.1, dr.2.2.2.2.2.2) dy lb pn ps ks si kb) H := hP
      have hD : va_D A (xW cI cL cZ ad tx td ((upd wdr0_2 k_2 (td.1 k_2)), (upd wdr1_2 k_2 (td.2.1 k_2)), (upd wdr2_2 k_2 (td.2.2.1 k_2)), wdr3_2, wdr4_2, dr.2.2.2.2.2.1, dr.2.2.2.2.2.2) dy lb pn ps ks si kb) := hD
      refine lv_aload_n hx hb dX6_copyFrom_44 rfl (lv_at hl 1 rfl) ?_
      refine va_get (D := D) (ci := 6) (v := .ref (ad 13)) (C := RX6) (T := TX6) (N := 7) hx hb hts (by decide +kernel) hown hK hP 9 rfl rfl 3 (by decide) (hts (.fieldLink RX6 21 "SummitTime$Told" "rents" "[I") (by decide +kernel)) (fun _ h9 => h9) rfl dX6_copyFrom_45 ?_
      refine lv_iload_n hx hb dX6_copyFrom_48 rfl (lv_at hl 0 rfl) ?_
      refine lv_aload_n hx hb dX6_copyFrom_49 rfl (lv_at hl 2 rfl) ?_
      refine va_get (D := D) (ci := 6) (v := .ref (ad 7)) (C := RX6) (T := TX6) (N := 7) hx hb hts (by decide +kernel) hown hK hP 3 rfl rfl 3 (by decide) (hts (.fieldLink RX6 21 "SummitTime$Told" "rents" "[I") (by decide +kernel)) (fun _ h9 => h9) rfl dX6_copyFrom_50 ?_
      refine lv_iload_n hx hb dX6_copyFrom_53 rfl (lv_at hl 0 rfl) ?_
      refine mv_iald (f := td.2.2.2.1) hx hb hK hP 7 0 rfl rfl (by omega) (by decide) dX6_copyFrom_54 ?_
      refine mv_iast (f := wdr3_2) hx hb hK hP hD hS 13 0 rfl rfl (by omega) (by decide) dX6_copyFrom_55 (fun H locs hP hD hS => ?_)
      have hP : va_P D vwCl (xW cI cL cZ ad tx td ((upd wdr0_2 k_2 (td.1 k_2)), (upd wdr1_2 k_2 (td.2.1 k_2)), (upd wdr2_2 k_2 (td.2.2.1 k_2)), (upd wdr3_2 k_2 (td.2.2.2.1 k_2)), wdr4_2, dr.2.2.2.2.2.1, dr.2.2.2.2.2.2) dy lb pn ps ks si kb) H := hP
      have hD : va_D A (xW cI cL cZ ad tx td ((upd wdr0_2 k_2 (td.1 k_2)), (upd wdr1_2 k_2 (td.2.1 k_2)), (upd wdr2_2 k_2 (td.2.2.1 k_2)), (upd wdr3_2 k_2 (td.2.2.2.1 k_2)), wdr4_2, dr.2.2.2.2.2.1, dr.2.2.2.2.2.2) dy lb pn ps ks si kb) := hD
      refine lv_aload_n hx hb dX6_copyFrom_56 rfl (lv_at hl 1 rfl) ?_
      refine va_get (D := D) (ci := 6) (v := .ref (ad 14)) (C := RX6) (T := TX6) (N := 7) hx hb hts (by decide +kernel) hown hK hP 9 rfl rfl 4 (by decide) (hts (.fieldLink RX6 24 "SummitTime$Told" "deeds" "[J") (by decide +kernel)) (fun _ h9 => h9) rfl dX6_copyFrom_57 ?_
      refine lv_iload_n hx hb dX6_copyFrom_60 rfl (lv_at hl 0 rfl) ?_
      refine lv_aload_n hx hb dX6_copyFrom_61 rfl (lv_at hl 2 rfl) ?_
      refine va_get (D := D) (ci := 6) (v := .ref (ad 8)) (C := RX6) (T := TX6) (N := 7) hx hb hts (by decide +kernel) hown hK hP 3 rfl rfl 4 (by decide) (hts (.fieldLink RX6 24 "SummitTime$Told" "deeds" "[J") (by decide +kernel)) (fun _ h9 => h9) rfl dX6_copyFrom_62 ?_
      refine lv_iload_n hx hb dX6_copyFrom_65 rfl (lv_at hl 0 rfl) ?_
      refine mv_lald (f := td.2.2.2.2.1) hx hb hK hP 8 1 rfl rfl (by omega) (by decide) dX6_copyFrom_66 ?_
      refine mv_last (f := wdr4_2) hx hb hK hP hD hS 14 1 rfl rfl (by omega) (by decide) dX6_copyFrom_67 (fun H locs hP hD hS => ?_)
      have hP : va_P D vwCl (xW cI cL cZ ad tx td ((upd wdr0_2 k_2 (td.1 k_2)), (upd wdr1_2 k_2 (td.2.1 k_2)), (upd wdr2_2 k_2 (td.2.2.1 k_2)), (upd wdr3_2 k_2 (td.2.2.2.1 k_2)), (vp_updL wdr4_2 k_2 (td.2.2.2.2.1 k_2)), dr.2.2.2.2.2.1, dr.2.2.2.2.2.2) dy lb pn ps ks si kb) H := hP
      have hD : va_D A (xW cI cL cZ ad tx td ((upd wdr0_2 k_2 (td.1 k_2)), (upd wdr1_2 k_2 (td.2.1 k_2)), (upd wdr2_2 k_2 (td.2.2.1 k_2)), (upd wdr3_2 k_2 (td.2.2.2.1 k_2)), (vp_updL wdr4_2 k_2 (td.2.2.2.2.1 k_2)), dr.2.2.2.2.2.1, dr.2.2.2.2.2.2) dy lb pn ps ks si kb) := hD
      refine mv_iinc (y := k_2 + 1) (lv' := [(2, .int (nI (k_2 + 1))), (0, .ref (ad 9)), (1, .ref (ad 3))]) hx hb dX6_copyFrom_68 hl (k := 0) rfl (nI_p1 _) (by decide) rfl (fun ls hl => ?_)
      refine lv_goto (tgt := 2) hx hb dX6_copyFrom_71 (by decide) ?_
      exact ih_2 (k_2 + 1) (upd wdr0_2 k_2 (td.1 k_2)) (upd wdr1_2 k_2 (td.2.1 k_2)) (upd wdr2_2 k_2 (td.2.2.1 k_2)) (upd wdr3_2 k_2 (td.2.2.2.1 k_2)) (vp_updL wdr4_2 k_2 (td.2.2.2.2.1 k_2)) (by omega) (by have e9 := hL_2; rw [L_X6_copyFrom_d_2] at e9; exact e9) _ _ ls hP hS (lv_sub hl [0, 1, 2] rfl)
  exact loop_2 6 0 dr.1 dr.2.1 dr.2.2.1 dr.2.2.2.1 dr.2.2.2.2.1 (by omega) hT_2_1.symm _ _ ls hP hS (lv_sub hl [0, 1, 2] rfl)
def L_X6_copyFrom_t_2 (dr : XTd) : Nat → Nat → (Nat → Int32) → (Nat → Int32) → (Nat → Int32) → (Nat → Int32) → (Nat → Int64) → (Nat → Int32) × (Nat → Int32) × (Nat → Int32) × (Nat → Int32) × (Nat → Int64)
  | 0, _, wtd0_2, wtd1_2, wtd2_2, wtd3_2, wtd4_2 => (wtd0_2, wtd1_2, wtd2_2, wtd3_2, wtd4_2)
  | n_2 + 1, k_2, wtd0_2, wtd1_2, wtd2_2, wtd3_2, wtd4_2 => (L_X6_copyFrom_t_2 dr n_2 (k_2 + 1) (upd wtd0_2 k_2 (dr.1 k_2)) (upd wtd1_2 k_2 (dr.2.1 k_2)) (upd wtd2_2 k_2 (dr.2.2.1 k_2)) (upd wtd3_2 k_2 (dr.2.2.2.1 k_2)) (vp_updL wtd4_2 k_2 (dr.2.2.2.2.1 k_2)))
def f_X6_copyFrom_t (td : XTd) (dr : XTd) : XTd := ((L_X6_copyFrom_t_2 dr 6 0 td.1 td.2.1 td.2.2.1 td.2.2.2.1 td.2.2.2.2.1).1, (L_X6_copyFrom_t_2 dr 6 0 td.1 td.2.1 td.2.2.1 td.2.2.2.1 td.2.2.2.2.1).2.1, (L_X6_copyFrom_t_2 dr 6 0 td.1 td.2.1 td.2.2.1 td.2.2.2.1 td.2.2.2.2.1).2.2.1, (L_X6_copyFrom_t_2 dr 6 0 td.1 td.2.1 td.2.2.1 td.2.2.2.1 td.2.2.2.2.1).2.2.2.1, (L_X6_copyFrom_t_2 dr 6 0 td.1 td.2.1 td.2.2.1 td.2.2.2.1 td.2.2.2.2.1).2.2.2.2, dr.2.2.2.2.2.1, dr.2.2.2.2.2.2)
abbrev rm_X6_copyFrom_t : Room := { frames := 0, cells := 0, slots := 0, locals := 0 }
set_option maxHeartbeats 4000000 in
set_option maxRecDepth 100000 in
theorem c_X6_copyFrom_t (l : Launch) (D : va_G) (cI cL cZ : ClassId) (ad : Nat → Nat) (A : Nat → Prop) (tx : XTx) (td : XTd) (dr : XTd) (dy : XDy) (lb : (Nat → Int32)) (pn : (Nat × Nat)) (ps : XSh) (ks : XSh) (si : XSi) (kb : Int32)   : Met l yX6_copyFrom wsX6_copyFrom rm_X6_copyFrom_t (va_Pc [.ref (ad 3), .ref (ad 9)] (sR D cI cL cZ A (xW cI cL cZ ad tx td dr dy lb pn ps ks si kb))) (va_Qv (fun (u : XTd) => u = (f_X6_copyFrom_t td dr)) (fun (u : XTd) t => va_P D vwCl (xW cI cL cZ ad tx u dr dy lb pn ps ks si kb) t.heap) A) 0 0 A := by
  refine Met.ofW (cc := cX6_copyFrom) (maxL := 3) (ret := none) (by decide) rfl ?_
  intro p e s m args below meth c s₁ B hml hv
  obtain ⟨rfl, hP, hK, hD, hE⟩ := hv
  have hx := B.exec
  have hb := B.bytes
  have hr := B.returns
  have hts := atoms_spec (ws := wsX6_copyFrom) B.pre
  have hown : s.vm.findClass RX6 = some m.cls := findClass_of_methodNamed B.named
  have hlocks := B.notSynchronized
  have hS : va_S A s.heap s.heap [] := va_S.rf
  have hl := lv_entry ([.ref (ad 3), .ref (ad 9)]) (n := 3) (Nat.le_of_ble_eq_true rfl)
  rw [lg_entry_eq]
  generalize (lg_sl ([.ref (ad 3), .ref (ad 9)]) ++ List.replicate (3 - (lg_sl ([.ref (ad 3), .ref (ad 9)])).length) Slot.unset).toArray = ls at hl ⊢
  have hl : lv_has ls 3 [(0, .ref (ad 3)), (1, .ref (ad 9))] := hl
  obtain ⟨Q, hQe⟩ : ∃ Q, Q = MQ below (va_Qv (fun (u : XTd) => u = (f_X6_copyFrom_t td dr)) (fun (u : XTd) t => va_P D vwCl (xW cI cL cZ ad tx u dr dy lb pn ps ks si kb) t.heap) A) ([.ref (ad 3), .ref (ad 9)] : List Value).toArray s 0 0 A := ⟨_, rfl⟩
  show W p l e (headSpec wsX6_copyFrom rm_X6_copyFrom_t).room s m ([.ref (ad 3), .ref (ad 9)] : List Value).toArray below meth c s.heap [] 0 0 (MQ below (va_Qv (fun (u : XTd) => u = (f_X6_copyFrom_t td dr)) (fun (u : XTd) t => va_P D vwCl (xW cI cL cZ ad tx u dr dy lb pn ps ks si kb) t.heap) A) ([.ref (ad 3), .ref (ad 9)] : List Value).toArray s 0 0 A) (F0 m 0 ls [])
  rw [← hQe]
  refine lv_iconst (v := nI 0) hx hb dX6_copyFrom_0 rfl ?_
  refine lv_istore_n (lv' := [(2, .int (nI 0)), (0, .ref (ad 3)), (1, .ref (ad 9))]) hx hb dX6_copyFrom_1 rfl hl (by decide) rfl (fun ls hl => ?_)
  obtain ⟨T_2_1, hT_2_1⟩ : ∃ z, z = (L_X6_copyFrom_t_2 dr 6 0 td.1 td.2.1 td.2.2.1 td.2.2.2.1 td.2.2.2.2.1) := ⟨_, rfl⟩
  have hexit_2 : ∀ (H : Heap) (locs : List Loc) (ls : Array Slot), va_P D vwCl (xW cI cL cZ ad tx (T_2_1.1, T_2_1.2.1, T_2_1.2.2.1, T_2_1.2.2.2.1, T_2_1.2.2.2.2, td.2.2.2.2.2.1, td.2.2.2.2.2.2) dr dy lb pn ps ks si kb) H → va_S A s.heap H locs → lv_has ls 3 [(0, .ref (ad 3)), (1, .ref (ad 9))] → W p l e (headSpec wsX6_copyFrom rm_X6_copyFrom_t).room s m ([.ref (ad 3), .ref (ad 9)] : List Value).toArray below meth c H locs 0 0 Q (F0 m 74 ls []) := by
    intro H locs ls hP hS hl
    have hD : va_D A (xW cI cL cZ ad tx (T_2_1.1, T_2_1.2.1, T_2_1.2.2.1, T_2_1.2.2.2.1, T_2_1.2.2.2.2, td.2.2.2.2.2.1, td.2.2.2.2.2.2) dr dy lb pn ps ks si kb) := xW_D hD
    refine lv_aload_n hx hb dX6_copyFrom_74 rfl (lv_at hl 0 rfl) ?_
    refine lv_aload_n hx hb dX6_copyFrom_75 rfl (lv_at hl 1 rfl) ?_
    refine va_get (D := D) (ci := 6) (v := .int (nI dr.2.2.2.2.2.1)) (C := RX6) (T := TX6) (N := 7) hx hb hts (by decide +kernel) hown hK hP 9 rfl rfl 5 (by decide) (hts (.fieldLink RX6 28 "SummitTime$Told" "people" "I") (by decide +kernel)) (fun _ h9 => h9) rfl dX6_copyFrom_76 ?_
    refine va_put (D := D) (ci := 6) (v := .int (nI dr.2.2.2.2.2.1)) (ty := .int) (C := RX6) (T := TX6) (N := 7) hx hb hts (by decide +kernel) tyX6 tyX6_ok nmX6 hown hK hP hD hS 3 rfl rfl 5 (by decide) (hts (.fieldLink RX6 28 "SummitTime$Told" "people" "I") (by decide +kernel)) (fun _ h9 => h9) rfl (by decide +kernel) rfl rfl (Nat.le_of_ble_eq_true rfl) dX6_copyFrom_79 (fun H locs hP hD hS => ?_)
    have hP : va_P D vwCl (xW cI cL cZ ad tx (T_2_1.1, T_2_1.2.1, T_2_1.2.2.1, T_2_1.2.2.2.1, T_2_1.2.2.2.2, dr.2.2.2.2.2.1, td.2.2.2.2.2.2) dr dy lb pn ps ks si kb) H := hP
    have hD : va_D A (xW cI cL cZ ad tx (T_2_1.1, T_2_1.2.1, T_2_1.2.2.1, T_2_1.2.2.2.1, T_2_1.2.2.2.2, dr.2.2.2.2.2.1, td.2.2.2.2.2.2) dr dy lb pn ps ks si kb) := hD
    refine lv_aload_n hx hb dX6_copyFrom_82 rfl (lv_at hl 0 rfl) ?_
    refine lv_aload_n hx hb dX6_copyFrom_83 rfl (lv_at hl 1 rfl) ?_
    refine va_get (D := D) (ci := 6) (v := .long dr.2.2.2.2.2.2) (C := RX6) (T := TX6) (N := 7) hx hb hts (by decide +kernel) hown hK hP 9 rfl rfl 6 (by decide) (hts (.fieldLink RX6 32 "SummitTime$Told" "clouds" "J") (by decide +kernel)) (fun _ h9 => h9) rfl dX6_copyFrom_84 ?_
    refine va_put (D := D) (ci := 6) (v := .long dr.2.2.2.2.2.2) (ty := .long) (C := RX6) (T := TX6) (N := 7) hx hb hts (by decide +kernel) tyX6 tyX6_ok nmX6 hown hK hP hD hS 3 rfl rfl 6 (by decide) (hts (.fieldLink RX6 32 "SummitTime$Told" "clouds" "J") (by decide +kernel)) (fun _ h9 => h9) rfl (by decide +kernel) rfl rfl (Nat.le_of_ble_eq_true rfl) dX6_copyFrom_87 (fun H locs hP hD hS => ?_)
    have hP : va_P D vwCl (xW cI cL cZ ad tx (T_2_1.1, T_2_1.2.1, T_2_1.2.2.1, T_2_1.2.2.2.1, T_2_1.2.2.2.2, dr.2.2.2.2.2.1, dr.2.2.2.2.2.2) dr dy lb pn ps ks si kb) H := hP
    have hD : va_D A (xW cI cL cZ ad tx (T_2_1.1, T_2_1.2.1, T_2_1.2.2.1, T_2_1.2.2.2.1, T_2_1.2.2.2.2, dr.2.2.2.2.2.1, dr.2.2.2.2.2.2) dr dy lb pn ps ks si kb) := hD
    subst hQe
    have hf : (f_X6_copyFrom_t td dr) = (T_2_1.1, T_2_1.2.1, T_2_1.2.2.1, T_2_1.2.2.2.1, T_2_1.2.2.2.2, dr.2.2.2.2.2.1, dr.2.2.2.2.2.2) := by rw [f_X6_copyFrom_t]; (try rw [← hT_2_1]); first | done | rfl
    exact W.vret hx hb hr (fun t ht hW => ⟨⟨(T_2_1.1, T_2_1.2.1, T_2_1.2.2.1, T_2_1.2.2.2.1, T_2_1.2.2.2.2, dr.2.2.2.2.2.1, dr.2.2.2.2.2.2), rfl, hf.symm, va_Pt ht hP⟩, hS.F ht⟩) hS.2.2 dX6_copyFrom_90
  have loop_2 : ∀ (n_2 : Nat) (k_2 : Nat) (wtd0_2 : Nat → Int32) (wtd1_2 : Nat → Int32) (wtd2_2 : Nat → Int32) (wtd3_2 : Nat → Int32) (wtd4_2 : Nat → Int64), (k_2 + n_2 = 6) → L_X6_copyFrom_t_2 dr n_2 k_2 wtd0_2 wtd1_2 wtd2_2 wtd3_2 wtd4_2 = T_2_1 → ∀ (H : Heap) (locs : List Loc) (ls : Array Slot), va_P D vwCl (xW cI cL cZ ad tx (wtd0_2, wtd1_2, wtd2_2, wtd3_2, wtd4_2, td.2.2.2.2.2.1, td.2.2.2.2.2.2) dr dy lb pn ps ks si kb) H → va_S A s.heap H locs → lv_has ls 3 [(2, .int (nI k_2)), (0, .ref (ad 3)), (1, .ref (ad 9))] → W p l e (headSpec wsX6_copyFrom rm_X6_copyFrom_t).room s m ([.ref (ad 3), .ref (ad 9)] : List Value).toArray below meth c H locs 0 0 Q (F0 m 2 ls []) := by
    intro n_2
    induction n_2 with
    | zero =>
      intro k_2 wtd0_2 wtd1_2 wtd2_2 wtd3_2 wtd4_2 hk_2 hL_2 H locs ls hP hS hl
      have hD : va_D A (xW cI cL cZ ad tx (wtd0_2, wtd1_2, wtd2_2, wtd3_2, wtd4_2, td.2.2.2.2.2.1, td.2.2.2.2.2.2) dr dy lb pn ps ks si kb) := xW_D hD
      refine lv_iload_n hx hb dX6_copyFrom_2 rfl (lv_at hl 0 rfl) ?_
      refine lv_bipush (v := nI 6) hx hb dX6_copyFrom_3 rfl ?_
      refine mv_icmp_ge (tgt := 74) hx hb dX6_copyFrom_5 (by decide) (by omega) (by decide) (fun c_2 => ?_) (fun c_2 => (by omega : False).elim)
      have e9 : T_2_1 = (wtd0_2, wtd1_2, wtd2_2, wtd3_2, wtd4_2) := by rw [← hL_2, L_X6_copyFrom_t_2]
      have hq := hexit_2
      rw [e9] at hq
      exact hq _ _ ls  hP hS (lv_sub hl [1, 2] rfl)
    | succ n_2 ih_2 =>
      intro k_2 wtd0_2 wtd1_2 wtd2_2 wtd3_2 wtd4_2 hk_2 hL_2 H locs ls hP hS hl
      have hD : va_D A (xW cI cL cZ ad tx (wtd0_2, wtd1_2, wtd2_2, wtd3_2, wtd4_2, td.2.2.2.2.2.1, td.2.2.2.2.2.2) dr dy lb pn ps ks si kb) := xW_D hD
      refine lv_iload_n hx hb dX6_copyFrom_2 rfl (lv_at hl 0 rfl) ?_
      refine lv_bipush (v := nI 6) hx hb dX6_copyFrom_3 rfl ?_
      refine mv_icmp_ge (tgt := 74) hx hb dX6_copyFrom_5 (by decide) (by omega) (by decide) (fun c_1 => (by omega : False).elim) (fun c_1 => ?_)
      refine lv_aload_n hx hb dX6_copyFrom_8 rfl (lv_at hl 1 rfl) ?_
      refine va_get (D := D) (ci := 6) (v := .ref (ad 4)) (C := RX6) (T := TX6) (N := 7) hx hb hts (by decide +kernel) hown hK hP 3 rfl rfl 0 (by decide) (hts (.fieldLink RX6 9 "SummitTime$Told" "kinds" "[I") (by decide +kernel)) (fun _ h9 => h9) rfl dX6_copyFrom_9 ?_
      refine lv_iload_n hx hb dX6_copyFrom_12 rfl (lv_at hl 0 rfl) ?_
      refine lv_aload_n hx hb dX6_copyFrom_13 rfl (lv_at hl 2 rfl) ?_
      refine va_get (D := D) (ci := 6) (v := .ref (ad 10)) (C := RX6) (T := TX6) (N := 7) hx hb hts (by decide +kernel) hown hK hP 9 rfl rfl 0 (by decide) (hts (.fieldLink RX6 9 "SummitTime$Told" "kinds" "[I") (by decide +kernel)) (fun _ h9 => h9) rfl dX6_copyFrom_14 ?_
      refine lv_iload_n hx hb dX6_copyFrom_17 rfl (lv_at hl 0 rfl) ?_
      refine mv_iald (f := dr.1) hx hb hK hP 10 0 rfl rfl (by omega) (by decide) dX6_copyFrom_18 ?_
      refine mv_iast (f := wtd0_2) hx hb hK hP hD hS 4 0 rfl rfl (by omega) (by decide) dX6_copyFrom_19 (fun H locs hP hD hS => ?_)
      have hP : va_P D vwCl (xW cI cL cZ ad tx ((upd wtd0_2 k_2 (dr.1 k_2)), wtd1_2, wtd2_2, wtd3_2, wtd4_2, td.2.2.2.2.2.1, td.2.2.2.2.2.2) dr dy lb pn ps ks si kb) H := hP
      have hD : va_D A (xW cI cL cZ ad tx ((upd wtd0_2 k_2 (dr.1 k_2)), wtd1_2, wtd2_2, wtd3_2, wtd4_2, td.2.2.2.2.2.1, td.2.2.2.2.2.2) dr dy lb pn ps ks si kb) := hD
      refine lv_aload_n hx hb dX6_copyFrom_20 rfl (lv_at hl 1 rfl) ?_
      refine va_get (D := D) (ci := 6) (v := .ref (ad 5)) (C := RX6) (T := TX6) (N := 7) hx hb hts (by decide +kernel) hown hK hP 3 rfl rfl 1 (by decide) (hts (.fieldLink RX6 15 "SummitTime$Told" "paces" "[I") (by decide +kernel)) (fun _ h9 => h9) rfl dX6_copyFrom_21 ?_
      refine lv_iload_n hx hb dX6_copyFrom_24 rfl (lv_at hl 0 rfl) ?_
      refine lv_aload_n hx hb dX6_copyFrom_25 rfl (lv_at hl 2 rfl) ?_
      refine va_get (D := D) (ci := 6) (v := .ref (ad 11)) (C := RX6) (T := TX6) (N := 7) hx hb hts (by decide +kernel) hown hK hP 9 rfl rfl 1 (by decide) (hts (.fieldLink RX6 15 "SummitTime$Told" "paces" "[I") (by decide +kernel)) (fun _ h9 => h9) rfl dX6_copyFrom_26 ?_
      refine lv_iload_n hx hb dX6_copyFrom_29 rfl (lv_at hl 0 rfl) ?_
      refine mv_iald (f := dr.2.1) hx hb hK hP 11 0 rfl rfl (by omega) (by decide) dX6_copyFrom_30 ?_
      refine mv_iast (f := wtd1_2) hx hb hK hP hD hS 5 0 rfl rfl (by omega) (by decide) dX6_copyFrom_31 (fun H locs hP hD hS => ?_)
      have hP : va_P D vwCl (xW cI cL cZ ad tx ((upd wtd0_2 k_2 (dr.1 k_2)), (upd wtd1_2 k_2 (dr.2.1 k_2)), wtd2_2, wtd3_2, wtd4_2, td.2.2.2.2.2.1, td.2.2.2.2.2.2) dr dy lb pn ps ks si kb) H := hP
      have hD : va_D A (xW cI cL cZ ad tx ((upd wtd0_2 k_2 (dr.1 k_2)), (upd wtd1_2 k_2 (dr.2.1 k_2)), wtd2_2, wtd3_2, wtd4_2, td.2.2.2.2.2.1, td.2.2.2.2.2.2) dr dy lb pn ps ks si kb) := hD
      refine lv_aload_n hx hb dX6_copyFrom_32 rfl (lv_at hl 1 rfl) ?_
      refine va_get (D := D) (ci := 6) (v := .ref (ad 6)) (C := RX6) (T := TX6) (N := 7) hx hb hts (by decide +kernel) hown hK hP 3 rfl rfl 2 (by decide) (hts (.fieldLink RX6 18 "SummitTime$Told" "stayings" "[I") (by decide +kernel)) (fun _ h9 => h9) rfl dX6_copyFrom_33 ?_
      refine lv_iload_n hx hb dX6_copyFrom_36 rfl (lv_at hl 0 rfl) ?_
      refine lv_aload_n hx hb dX6_copyFrom_37 rfl (lv_at hl 2 rfl) ?_
      refine va_get (D := D) (ci := 6) (v := .ref (ad 12)) (C := RX6) (T := TX6) (N := 7) hx hb hts (by decide +kernel) hown hK hP 9 rfl rfl 2 (by decide) (hts (.fieldLink RX6 18 "SummitTime$Told" "stayings" "[I") (by decide +kernel)) (fun _ h9 => h9) rfl dX6_copyFrom_38 ?_
      refine lv_iload_n hx hb dX6_copyFrom_41 rfl (lv_at hl 0 rfl) ?_
      refine mv_iald (f := dr.2.2.1) hx hb hK hP 12 0 rfl rfl (by omega) (by decide) dX6_copyFrom_42 ?_
      refine mv_iast (f := wtd2_2) hx hb hK hP hD hS 6 0 rfl rfl (by omega) (by decide) dX6_copyFrom_43 (fun H locs hP hD hS => ?_)
      have hP : va_P D vwCl (xW cI cL cZ ad tx ((upd wtd0_2 k_2 (dr.1 k_2)), (upd wtd1_2 k_2 (dr.2.1 k_2)), (upd wtd2_2 k_2 (dr.2.2.1 k_2)), wtd3_2, wtd4_2, td.2.2.2.2.2.1, td.2.2.2.2.2.2) dr dy lb pn ps ks si kb) H := hP
      have hD : va_D A (xW cI cL cZ ad tx ((upd wtd0_2 k_2 (dr.1 k_2)), (upd wtd1_2 k_2 (dr.2.1 k_2)), (upd wtd2_2 k_2 (dr.2.2.1 k_2)), wtd3_2, wtd4_2, td.2.2.2.2.2.1, td.2.2.2.2.2.2) dr dy lb pn ps ks si kb) := hD
      refine lv_aload_n hx hb dX6_copyFrom_44 rfl (lv_at hl 1 rfl) ?_
      refine va_get (D := D) (ci := 6) (v := .ref (ad 7)) (C := RX6) (T := TX6) (N := 7) hx hb hts (by decide +kernel) hown hK hP 3 rfl rfl 3 (by decide) (hts (.fieldLink RX6 21 "SummitTime$Told" "rents" "[I") (by decide +kernel)) (fun _ h9 => h9) rfl dX6_copyFrom_45 ?_
      refine lv_iload_n hx hb dX6_copyFrom_48 rfl (lv_at hl 0 rfl) ?_
      refine lv_aload_n hx hb dX6_copyFrom_49 rfl (lv_at hl 2 rfl) ?_
      refine va_get (D := D) (ci := 6) (v := .ref (ad 13)) (C := RX6) (T := TX6) (N := 7) hx hb hts (by decide +kernel) hown hK hP 9 rfl rfl 3 (by decide) (hts (.fieldLink RX6 21 "SummitTime$Told" "rents" "[I") (by decide +kernel)) (fun _ h9 => h9) rfl dX6_copyFrom_50 ?_
      refine lv_iload_n hx hb dX6_copyFrom_53 rfl (lv_at hl 0 rfl) ?_
      refine mv_iald (f := dr.2.2.2.1) hx hb hK hP 13 0 rfl rfl (by omega) (by decide) dX6_copyFrom_54 ?_
      refine mv_iast (f := wtd3_2) hx hb hK hP hD hS 7 0 rfl rfl (by omega) (by decide) dX6_copyFrom_55 (fun H locs hP hD hS => ?_)
      have hP : va_P D vwCl (xW cI cL cZ ad tx ((upd wtd0_2 k_2 (dr.1 k_2)), (upd wtd1_2 k_2 (dr.2.1 k_2)), (upd wtd2_2 k_2 (dr.2.2.1 k_2)), (upd wtd3_2 k_2 (dr.2.2.2.1 k_2)), wtd4_2, td.2.2.2.2.2.1, td.2.2.2.2.2.2) dr dy lb pn ps ks si kb) H := hP
      have hD : va_D A (xW cI cL cZ ad tx ((upd wtd0_2 k_2 (dr.1 k_2)), (upd wtd1_2 k_2 (dr.2.1 k_2)), (upd wtd2_2 k_2 (dr.2.2.1 k_2)), (upd wtd3_2 k_2 (dr.2.2.2.1 k_2)), wtd4_2, td.2.2.2.2.2.1, td.2.2.2.2.2.2) dr dy lb pn ps ks si kb) := hD
      refine lv_aload_n hx hb dX6_copyFrom_56 rfl (lv_at hl 1 rfl) ?_
      refine va_get (D := D) (ci := 6) (v := .ref (ad 8)) (C := RX6) (T := TX6) (N := 7) hx hb hts (by decide +kernel) hown hK hP 3 rfl rfl 4 (by decide) (hts (.fieldLink RX6 24 "SummitTime$Told" "deeds" "[J") (by decide +kernel)) (fun _ h9 => h9) rfl dX6_copyFrom_57 ?_
      refine lv_iload_n hx hb dX6_copyFrom_60 rfl (lv_at hl 0 rfl) ?_
      refine lv_aload_n hx hb dX6_copyFrom_61 rfl (lv_at hl 2 rfl) ?_
      refine va_get (D := D) (ci := 6) (v := .ref (ad 14)) (C := RX6) (T := TX6) (N := 7) hx hb hts (by decide +kernel) hown hK hP 9 rfl rfl 4 (by decide) (hts (.fieldLink RX6 24 "SummitTime$Told" "deeds" "[J") (by decide +kernel)) (fun _ h9 => h9) rfl dX6_copyFrom_62 ?_
      refine lv_iload_n hx hb dX6_copyFrom_65 rfl (lv_at hl 0 rfl) ?_
      refine mv_lald (f := dr.2.2.2.2.1) hx hb hK hP 14 1 rfl rfl (by omega) (by decide) dX6_copyFrom_66 ?_
      refine mv_last (f := wtd4_2) hx hb hK hP hD hS 8 1 rfl rfl (by omega) (by decide) dX6_copyFrom_67 (fun H locs hP hD hS => ?_)
      have hP : va_P D vwCl (xW cI cL cZ ad tx ((upd wtd0_2 k_2 (dr.1 k_2)), (upd wtd1_2 k_2 (dr.2.1 k_2)), (upd wtd2_2 k_2 (dr.2.2.1 k_2)), (upd wtd3_2 k_2 (dr.2.2.2.1 k_2)), (vp_updL wtd4_2 k_2 (dr.2.2.2.2.1 k_2)), td.2.2.2.2.2.1, td.2.2.2.2.2.2) dr dy lb pn ps ks si kb) H := hP
      have hD : va_D A (xW cI cL cZ ad tx ((upd wtd0_2 k_2 (dr.1 k_2)), (upd wtd1_2 k_2 (dr.2.1 k_2)), (upd wtd2_2 k_2 (dr.2.2.1 k_2)), (upd wtd3_2 k_2 (dr.2.2.2.1 k_2)), (vp_updL wtd4_2 k_2 (dr.2.2.2.2.1 k_2)), td.2.2.2.2.2.1, td.2.2.2.2.2.2) dr dy lb pn ps ks si kb) := hD
      refine mv_iinc (y := k_2 + 1) (lv' := [(2, .int (nI (k_2 + 1))), (0, .ref (ad 3)), (1, .ref (ad 9))]) hx hb dX6_copyFrom_68 hl (k := 0) rfl (nI_p1 _) (by decide) rfl (fun ls hl => ?_)
      refine lv_goto (tgt := 2) hx hb dX6_copyFrom_71 (by decide) ?_
      exact ih_2 (k_2 + 1) (upd wtd0_2 k_2 (dr.1 k_2)) (upd wtd1_2 k_2 (dr.2.1 k_2)) (upd wtd2_2 k_2 (dr.2.2.1 k_2)) (upd wtd3_2 k_2 (dr.2.2.2.1 k_2)) (vp_updL wtd4_2 k_2 (dr.2.2.2.2.1 k_2)) (by omega) (by have e9 := hL_2; rw [L_X6_copyFrom_t_2] at e9; exact e9) _ _ ls hP hS (lv_sub hl [0, 1, 2] rfl)
  exact loop_2 6 0 td.1 td.2.1 td.2.2.1 td.2.2.2.1 td.2.2.2.2.1 (by omega) hT_2_1.symm _ _ ls hP hS (lv_sub hl [0, 1, 2] rfl)
def L_X6_reset_2  : Nat → Nat → (Nat → Int64) → (Nat → Int64)
  | 0, _, wdr4_2 => wdr4_2
  | n_2 + 1, k_2, wdr4_2 => (L_X6_reset_2 n_2 (k_2 + 1) (vp_updL wdr4_2 k_2 (0 : Int64)))
def f_X6_reset (dr : XTd) : XTd := (dr.1, dr.2.1, dr.2.2.1, dr.2.2.2.1, (L_X6_reset_2 6 0 dr.2.2.2.2.1), 0, (0 : Int64))
abbrev rm_X6_reset : Room := { frames := 0, cells := 0, slots := 0, locals := 0 }
set_option maxHeartbeats 4000000 in
set_option maxRecDepth 100000 in
theorem c_X6_reset (l : Launch) (D : va_G) (cI cL cZ : ClassId) (ad : Nat → Nat) (A : Nat → Prop) (tx : XTx) (td : XTd) (dr : XTd) (dy : XDy) (lb : (Nat → Int32)) (pn : (Nat × Nat)) (ps : XSh) (ks : XSh) (si : XSi) (kb : Int32)   : Met l yX6_reset wsX6_reset rm_X6_reset (va_Pc [.ref (ad 9)] (sR D cI cL cZ A (xW cI cL cZ ad tx td dr dy lb pn ps ks si kb))) (va_Qv (fun (u : XTd) => u = (f_X6_reset dr)) (fun (u : XTd) t => va_P D vwCl (xW cI cL cZ ad tx td u dy lb pn ps ks si kb) t.heap) A) 0 0 A := by
  refine Met.ofW (cc := cX6_reset) (maxL := 2) (ret := none) (by decide) rfl ?_
  intro p e s m args below meth c s₁ B hml hv
  obtain ⟨rfl, hP, hK, hD, hE⟩ := hv
  have hx := B.exec
  have hb := B.bytes
  have hr := B.returns
  have hts := atoms_spec (ws := wsX6_reset) B.pre
  have hown : s.vm.findClass RX6 = some m.cls := findClass_of_methodNamed B.named
  have hlocks := B.notSynchronized
  have hS : va_S A s.heap s.heap [] := va_S.rf
  have hl := lv_entry ([.ref (ad 9)]) (n := 2) (Nat.le_of_ble_eq_true rfl)
  rw [lg_entry_eq]
  generalize (lg_sl ([.ref (ad 9)]) ++ List.replicate (2 - (lg_sl ([.ref (ad 9)])).length) Slot.unset).toArray = ls at hl ⊢
  have hl : lv_has ls 2 [(0, .ref (ad 9))] := hl
  obtain ⟨Q, hQe⟩ : ∃ Q, Q = MQ below (va_Qv (fun (u : XTd) => u = (f_X6_reset dr)) (fun (u : XTd) t => va_P D vwCl (xW cI cL cZ ad tx td u dy lb pn ps ks si kb) t.heap) A) ([.ref (ad 9)] : List Value).toArray s 0 0 A := ⟨_, rfl⟩
  show W p l e (headSpec wsX6_reset rm_X6_reset).room s m ([.ref (ad 9)] : List Value).toArray below meth c s.heap [] 0 0 (MQ below (va_Qv (fun (u : XTd) => u = (f_X6_reset dr)) (fun (u : XTd) t => va_P D vwCl (xW cI cL cZ ad tx td u dy lb pn ps ks si kb) t.heap) A) ([.ref (ad 9)] : List Value).toArray s 0 0 A) (F0 m 0 ls [])
  rw [← hQe]
  refine lv_iconst (v := nI 0) hx hb dX6_reset_0 rfl ?_
  refine lv_istore_n (lv' := [(1, .int (nI 0)), (0, .ref (ad 9))]) hx hb dX6_reset_1 rfl hl (by decide) rfl (fun ls hl => ?_)
  obtain ⟨T_2_1, hT_2_1⟩ : ∃ z, z = (L_X6_reset_2 6 0 dr.2.2.2.2.1) := ⟨_, rfl⟩
  have hexit_2 : ∀ (H : Heap) (locs : List Loc) (ls : Array Slot), va_P D vwCl (xW cI cL cZ ad tx td (dr.1, dr.2.1, dr.2.2.1, dr.2.2.2.1, T_2_1, dr.2.2.2.2.2.1, dr.2.2.2.2.2.2) dy lb pn ps ks si kb) H → va_S A s.heap H locs → lv_has ls 2 [(0, .ref (ad 9))] → W p l e (headSpec wsX6_reset rm_X6_reset).room s m ([.ref (ad 9)] : List Value).toArray below meth c H locs 0 0 Q (F0 m 21 ls []) := by
    intro H locs ls hP hS hl
    have hD : va_D A (xW cI cL cZ ad tx td (dr.1, dr.2.1, dr.2.2.1, dr.2.2.2.1, T_2_1, dr.2.2.2.2.2.1, dr.2.2.2.2.2.2) dy lb pn ps ks si kb) := xW_D hD
    refine lv_aload_n hx hb dX6_reset_21 rfl (lv_at hl 0 rfl) ?_
    refine lv_iconst (v := nI 0) hx hb dX6_reset_22 rfl ?_
    refine va_put (D := D) (ci := 6) (v := .int (nI 0)) (ty := .int) (C := RX6) (T := TX6) (N := 7) hx hb hts (by decide +kernel) tyX6 tyX6_ok nmX6 hown hK hP hD hS 9 rfl rfl 5 (by decide) (hts (.fieldLink RX6 28 "SummitTime$Told" "people" "I") (by decide +kernel)) (fun _ h9 => h9) rfl (by decide +kernel) rfl rfl (Nat.le_of_ble_eq_true rfl) dX6_reset_23 (fun H locs hP hD hS => ?_)
    have hP : va_P D vwCl (xW cI cL cZ ad tx td (dr.1, dr.2.1, dr.2.2.1, dr.2.2.2.1, T_2_1, 0, dr.2.2.2.2.2.2) dy lb pn ps ks si kb) H := hP
    have hD : va_D A (xW cI cL cZ ad tx td (dr.1, dr.2.1, dr.2.2.1, dr.2.2.2.1, T_2_1, 0, dr.2.2.2.2.2.2) dy lb pn ps ks si kb) := hD
    refine lv_aload_n hx hb dX6_reset_26 rfl (lv_at hl 0 rfl) ?_
    refine lv_lconst (v := 0) hx hb dX6_reset_27 rfl ?_
    refine va_put (D := D) (ci := 6) (v := .long (0 : Int64)) (ty := .long) (C := RX6) (T := TX6) (N := 7) hx hb hts (by decide +kernel) tyX6 tyX6_ok nmX6 hown hK hP hD hS 9 rfl rfl 6 (by decide) (hts (.fieldLink RX6 32 "SummitTime$Told" "clouds" "J") (by decide +kernel)) (fun _ h9 => h9) rfl (by decide +kernel) rfl rfl (Nat.le_of_ble_eq_true rfl) dX6_reset_28 (fun H locs hP hD hS => ?_)
    have hP : va_P D vwCl (xW cI cL cZ ad tx td (dr.1, dr.2.1, dr.2.2.1, dr.2.2.2.1, T_2_1, 0, (0 : Int64)) dy lb pn ps ks si kb) H := hP
    have hD : va_D A (xW cI cL cZ ad tx td (dr.1, dr.2.1, dr.2.2.1, dr.2.2.2.1, T_2_1, 0, (0 : Int64)) dy lb pn ps ks si kb) := hD
    subst hQe
    have hf : (f_X6_reset dr) = (dr.1, dr.2.1, dr.2.2.1, dr.2.2.2.1, T_2_1, 0, (0 : Int64)) := by rw [f_X6_reset]; (try rw [← hT_2_1]); first | done | rfl
    exact W.vret hx hb hr (fun t ht hW => ⟨⟨(dr.1, dr.2.1, dr.2.2.1, dr.2.2.2.1, T_2_1, 0, (0 : Int64)), rfl, hf.symm, va_Pt ht hP⟩, hS.F ht⟩) hS.2.2 dX6_reset_31
  have loop_2 : ∀ (n_2 : Nat) (k_2 : Nat) (wdr4_2 : Nat → Int64), (k_2 + n_2 = 6) → L_X6_reset_2 n_2 k_2 wdr4_2 = T_2_1 → ∀ (H : Heap) (locs : List Loc) (ls : Array Slot), va_P D vwCl (xW cI cL cZ ad tx td (dr.1, dr.2.1, dr.2.2.1, dr.2.2.2.1, wdr4_2, dr.2.2.2.2.2.1, dr.2.2.2.2.2.2) dy lb pn ps ks si kb) H → va_S A s.heap H locs → lv_has ls 2 [(1, .int (nI k_2)), (0, .ref (ad 9))] → W p l e (headSpec wsX6_reset rm_X6_reset).room s m ([.ref (ad 9)] : List Value).toArray below meth c H locs 0 0 Q (F0 m 2 ls []) := by
    intro n_2
    induction n_2 with
    | zero =>
      intro k_2 wdr4_2 hk_2 hL_2 H locs ls hP hS hl
      have hD : va_D A (xW cI cL cZ ad tx td (dr.1, dr.2.1, dr.2.2.1, dr.2.2.2.1, wdr4_2, dr.2.2.2.2.2.1, dr.2.2.2.2.2.2) dy lb pn ps ks si kb) := xW_D hD
      refine lv_iload_n hx hb dX6_reset_2 rfl (lv_at hl 0 rfl) ?_
      refine lv_bipush (v := nI 6) hx hb dX6_reset_3 rfl ?_
      refine mv_icmp_ge (tgt := 21) hx hb dX6_reset_5 (by decide) (by omega) (by decide) (fun c_2 => ?_) (fun c_2 => (by omega : False).elim)
      have e9 : T_2_1 = wdr4_2 := by rw [← hL_2, L_X6_reset_2]
      have hq := hexit_2
      rw [e9] at hq
      exact hq _ _ ls  hP hS (lv_sub hl [1] rfl)
    | succ n_2 ih_2 =>
      intro k_2 wdr4_2 hk_2 hL_2 H locs ls hP hS hl
      have hD : va_D A (xW cI cL cZ ad tx td (dr.1, dr.2.1, dr.2.2.1, dr.2.2.2.1, wdr4_2, dr.2.2.2.2.2.1, dr.2.2.2.2.2.2) dy lb pn ps ks si kb) := xW_D hD
      refine lv_iload_n hx hb dX6_reset_2 rfl (lv_at hl 0 rfl) ?_
      refine lv_bipush (v := nI 6) hx hb dX6_reset_3 rfl ?_
      refine mv_icmp_ge (tgt := 21) hx hb dX6_reset_5 (by decide) (by omega) (by decide) (fun c_1 => (by omega : False).elim) (fun c_1 => ?_)
      refine lv_aload_n hx hb dX6_reset_8 rfl (lv_at hl 1 rfl) ?_
      refine va_get (D := D) (ci := 6) (v := .ref (ad 14)) (C := RX6) (T := TX6) (N := 7) hx hb hts (by decide +kernel) hown hK hP 9 rfl rfl 4 (by decide) (hts (.fieldLink RX6 24 "SummitTime$Told" "deeds" "[J") (by decide +kernel)) (fun _ h9 => h9) rfl dX6_reset_9 ?_
      refine lv_iload_n hx hb dX6_reset_12 rfl (lv_at hl 0 rfl) ?_
      refine lv_lconst (v := 0) hx hb dX6_reset_13 rfl ?_
      refine mv_last (f := wdr4_2) hx hb hK hP hD hS 14 1 rfl rfl (by omega) (by decide) dX6_reset_14 (fun H locs hP hD hS => ?_)
      have hP : va_P D vwCl (xW cI cL cZ ad tx td (dr.1, dr.2.1, dr.2.2.1, dr.2.2.2.1, (vp_updL wdr4_2 k_2 (0 : Int64)), dr.2.2.2.2.2.1, dr.2.2.2.2.2.2) dy lb pn ps ks si kb) H := hP
      have hD : va_D A (xW cI cL cZ ad tx td (dr.1, dr.2.1, dr.2.2.1, dr.2.2.2.1, (vp_updL wdr4_2 k_2 (0 : Int64)), dr.2.2.2.2.2.1, dr.2.2.2.2.2.2) dy lb pn ps ks si kb) := hD
      refine mv_iinc (y := k_2 + 1) (lv' := [(1, .int (nI (k_2 + 1))), (0, .ref (ad 9))]) hx hb dX6_reset_15 hl (k := 0) rfl (nI_p1 _) (by decide) rfl (fun ls hl => ?_)
      refine lv_goto (tgt := 2) hx hb dX6_reset_18 (by decide) ?_
      exact ih_2 (k_2 + 1) (vp_updL wdr4_2 k_2 (0 : Int64)) (by omega) (by have e9 := hL_2; rw [L_X6_reset_2] at e9; exact e9) _ _ ls hP hS (lv_sub hl [0, 1] rfl)
  exact loop_2 6 0 dr.2.2.2.2.1 (by omega) hT_2_1.symm _ _ ls hP hS (lv_sub hl [0, 1] rfl)
def f_X6_hasRoom (dr : XTd) : Int32 := (if 6 ≤ dr.2.2.2.2.2.1 then nI 0 else nI 1)
theorem f_X6_hasRoom_b (dr : XTd) : (f_X6_hasRoom dr) = nI 0 ∨ (f_X6_hasRoom dr) = nI 1 := by
  unfold f_X6_hasRoom
  (repeat' split) <;> first | exact Or.inl rfl | exact Or.inr rfl | exact f_X8_in_b _ _ _
abbrev rm_X6_hasRoom : Room := { frames := 0, cells := 0, slots := 0, locals := 0 }
set_option maxHeartbeats 4000000 in
set_option maxRecDepth 100000 in
theorem c_X6_hasRoom (l : Launch) (D : va_G) (cI cL cZ : ClassId) (ad : Nat → Nat) (A : Nat → Prop) (tx : XTx) (td : XTd) (dr : XTd) (dy : XDy) (lb : (Nat → Int32)) (pn : (Nat × Nat)) (ps : XSh) (ks : XSh) (si : XSi) (kb : Int32)  (hpe : dr.2.2.2.2.2.1 ≤ 6) : Met l yX6_hasRoom wsX6_hasRoom rm_X6_hasRoom (va_Pc [.ref (ad 9)] (sR D cI cL cZ A (xW cI cL cZ ad tx td dr dy lb pn ps ks si kb))) (vp_Si (fun r => r = (f_X6_hasRoom dr))) 0 0 (fun _ => False) := by
  refine Met.ofW (cc := cX6_hasRoom) (maxL := 1) (ret := (some .boolean)) (by decide) rfl ?_
  intro p e s m args below meth c s₁ B hml hv
  obtain ⟨rfl, hP, hK, hD, hE⟩ := hv
  have hx := B.exec
  have hb := B.bytes
  have hr := B.returns
  have hts := atoms_spec (ws := wsX6_hasRoom) B.pre
  have hown : s.vm.findClass RX6 = some m.cls := findClass_of_methodNamed B.named
  have hlocks := B.notSynchronized
  have hl := lv_entry ([.ref (ad 9)]) (n := 1) (Nat.le_of_ble_eq_true rfl)
  rw [lg_entry_eq]
  generalize (lg_sl ([.ref (ad 9)]) ++ List.replicate (1 - (lg_sl ([.ref (ad 9)])).length) Slot.unset).toArray = ls at hl ⊢
  have hl : lv_has ls 1 [(0, .ref (ad 9))] := hl
  refine lv_aload_n hx hb dX6_hasRoom_0 rfl (lv_at hl 0 rfl) ?_
  refine va_get (D := D) (ci := 6) (v := .int (nI dr.2.2.2.2.2.1)) (C := RX6) (T := TX6) (N := 7) hx hb hts (by decide +kernel) hown hK hP 9 rfl rfl 5 (by decide) (hts (.fieldLink RX6 28 "SummitTime$Told" "people" "I") (by decide +kernel)) (fun _ h9 => h9) rfl dX6_hasRoom_1 ?_
  refine lv_bipush (v := nI 6) hx hb dX6_hasRoom_4 rfl ?_
  refine mv_phi (v := (if 6 ≤ dr.2.2.2.2.2.1 then nI 0 else nI 1)) (pcj := 14) (ls := ls) (rest' := []) ?_ (fun J_1 => ?_)
  · have hf : (f_X6_hasRoom dr) = (if 6 ≤ dr.2.2.2.2.2.1 then nI 0 else nI 1) := by rw [f_X6_hasRoom]
    exact W.zret (v := (if 6 ≤ dr.2.2.2.2.2.1 then nI 0 else nI 1)) (ty := .boolean) hx hb hr nb_if (fun t ht hW => ⟨(if 6 ≤ dr.2.2.2.2.2.1 then nI 0 else nI 1), rfl, hf.symm, ht⟩) (fun _ h => by cases h) dX6_hasRoom_14
  · refine mv_icmp_ge (tgt := 13) hx hb dX6_hasRoom_6 (by decide) (by omega) (by decide) (fun c_2 => ?_) (fun c_2 => ?_)
    · refine lv_iconst (v := nI 0) hx hb dX6_hasRoom_13 rfl ?_
      exact J_1 _ (by rw [if_pos c_2])
    · refine lv_iconst (v := nI 1) hx hb dX6_hasRoom_9 rfl ?_
      refine lv_goto (tgt := 14) hx hb dX6_hasRoom_10 (by decide) ?_
      exact J_1 _ (by rw [if_neg c_2])
def f_X6_add (dr : XTd) (x0 : Int32) (x1 : Int32) (x2 : Int32) (x3 : Int32) : XTd := (if dr.2.2.2.2.2.1 < 6 then ((upd dr.1 dr.2.2.2.2.2.1 x0), (upd dr.2.1 dr.2.2.2.2.2.1 x1), (upd dr.2.2.1 dr.2.2.2.2.2.1 x2), (upd dr.2.2.2.1 dr.2.2.2.2.2.1 x3), dr.2.2.2.2.1, (dr.2.2.2.2.2.1 + 1), dr.2.2.2.2.2.2) else dr)
abbrev rm_X6_add : Room := { frames := 0, cells := 0, slots := 0, locals := 0 }
set_option maxHeartbeats 4000000 in
set_option maxRecDepth 100000 in
theorem c_X6_add (l : Launch) (D : va_G) (cI cL cZ : ClassId) (ad : Nat → Nat) (A : Nat → Prop) (tx : XTx) (td : XTd) (dr : XTd) (dy : XDy) (lb : (Nat → Int32)) (pn : (Nat × Nat)) (ps : XSh) (ks : XSh) (si : XSi) (kb : Int32) (x0 : Int32) (x1 : Int32) (x2 : Int32) (x3 : Int32) (hpe : dr.2.2.2.2.2.1 ≤ 6) : Met l yX6_add wsX6_add rm_X6_add (va_Pc [.ref (ad 9), .int x0, .int x1, .int x2, .int x3] (sR D cI cL cZ A (xW cI cL cZ ad tx td dr dy lb pn ps ks si kb))) (va_Qv (fun (u : XTd) => u = (f_X6_add dr x0 x1 x2 x3)) (fun (u : XTd) t => va_P D vwCl (xW cI cL cZ ad tx td u dy lb pn ps ks si kb) t.heap) A) 0 0 A := by
  refine Met.ofW (cc := cX6_add) (maxL := 5) (ret := none) (by decide) rfl ?_
  intro p e s m args below meth c s₁ B hml hv
  obtain ⟨rfl, hP, hK, hD, hE⟩ := hv
  have hx := B.exec
  have hb := B.bytes
  have hr := B.returns
  have hts := atoms_spec (ws := wsX6_add) B.pre
  have hown : s.vm.findClass RX6 = some m.cls := findClass_of_methodNamed B.named
  have hlocks := B.notSynchronized
  have hS : va_S A s.heap s.heap [] := va_S.rf
  have hl := lv_entry ([.ref (ad 9), .int x0, .int x1, .int x2, .int x3]) (n := 5) (Nat.le_of_ble_eq_true rfl)
  rw [lg_entry_eq]
  generalize (lg_sl ([.ref (ad 9), .int x0, .int x1, .int x2, .int x3]) ++ List.replicate (5 - (lg_sl ([.ref (ad 9), .int x0, .int x1, .int x2, .int x3])).length) Slot.unset).toArray = ls at hl ⊢
  have hl : lv_has ls 5 [(0, .ref (ad 9)), (1, .int x0), (2, .int x1), (3, .int x2), (4, .int x3)] := hl
  refine lv_aload_n hx hb dX6_add_0 rfl (lv_at hl 0 rfl) ?_
  refine va_get (D := D) (ci := 6) (v := .int (nI dr.2.2.2.2.2.1)) (C := RX6) (T := TX6) (N := 7) hx hb hts (by decide +kernel) hown hK hP 9 rfl rfl 5 (by decide) (hts (.fieldLink RX6 28 "SummitTime$Told" "people" "I") (by decide +kernel)) (fun _ h9 => h9) rfl dX6_add_1 ?_
  refine mv_if_lt (tgt := 16) hx hb dX6_add_4 (by decide) (by omega) ?_
  refine lv_aload_n hx hb dX6_add_7 rfl (lv_at hl 0 rfl) ?_
  refine va_get (D := D) (ci := 6) (v := .int (nI dr.2.2.2.2.2.1)) (C := RX6) (T := TX6) (N := 7) hx hb hts (by decide +kernel) hown hK hP 9 rfl rfl 5 (by decide) (hts (.fieldLink RX6 28 "SummitTime$Told" "people" "I") (by decide +kernel)) (fun _ h9 => h9) rfl dX6_add_8 ?_
  refine lv_bipush (v := nI 6) hx hb dX6_add_11 rfl ?_
  refine mv_icmp_lt (tgt := 17) hx hb dX6_add_13 (by decide) (by omega) (by decide) (fun c_1 => ?_) (fun c_1 => ?_)
  · refine lv_aload_n hx hb dX6_add_17 rfl (lv_at hl 0 rfl) ?_
    refine va_get (D := D) (ci := 6) (v := .ref (ad 10)) (C := RX6) (T := TX6) (N := 7) hx hb hts (by decide +kernel) hown hK hP 9 rfl rfl 0 (by decide) (hts (.fieldLink RX6 9 "SummitTime$Told" "kinds" "[I") (by decide +kernel)) (fun _ h9 => h9) rfl dX6_add_18 ?_
    refine lv_aload_n hx hb dX6_add_21 rfl (lv_at hl 0 rfl) ?_
    refine va_get (D := D) (ci := 6) (v := .int (nI dr.2.2.2.2.2.1)) (C := RX6) (T := TX6) (N := 7) hx hb hts (by decide +kernel) hown hK hP 9 rfl rfl 5 (by decide) (hts (.fieldLink RX6 28 "SummitTime$Told" "people" "I") (by decide +kernel)) (fun _ h9 => h9) rfl dX6_add_22 ?_
    refine lv_iload_n hx hb dX6_add_25 rfl (lv_at hl 1 rfl) ?_
    refine mv_iast (f := dr.1) hx hb hK hP hD hS 10 0 rfl rfl (by omega) (by decide) dX6_add_26 (fun H locs hP hD hS => ?_)
    have hP : va_P D vwCl (xW cI cL cZ ad tx td ((upd dr.1 dr.2.2.2.2.2.1 x0), dr.2.1, dr.2.2.1, dr.2.2.2.1, dr.2.2.2.2.1, dr.2.2.2.2.2.1, dr.2.2.2.2.2.2) dy lb pn ps ks si kb) H := hP
    have hD : va_D A (xW cI cL cZ ad tx td ((upd dr.1 dr.2.2.2.2.2.1 x0), dr.2.1, dr.2.2.1, dr.2.2.2.1, dr.2.2.2.2.1, dr.2.2.2.2.2.1, dr.2.2.2.2.2.2) dy lb pn ps ks si kb) := hD
    refine lv_aload_n hx hb dX6_add_27 rfl (lv_at hl 0 rfl) ?_
    refine va_get (D := D) (ci := 6) (v := .ref (ad 11)) (C := RX6) (T := TX6) (N := 7) hx hb hts (by decide +kernel) hown hK hP 9 rfl rfl 1 (by decide) (hts (.fieldLink RX6 15 "SummitTime$Told" "paces" "[I") (by decide +kernel)) (fun _ h9 => h9) rfl dX6_add_28 ?_
    refine lv_aload_n hx hb dX6_add_31 rfl (lv_at hl 0 rfl) ?_
    refine va_get (D := D) (ci := 6) (v := .int (nI dr.2.2.2.2.2.1)) (C := RX6) (T := TX6) (N := 7) hx hb hts (by decide +kernel) hown hK hP 9 rfl rfl 5 (by decide) (hts (.fieldLink RX6 28 "SummitTime$Told" "people" "I") (by decide +kernel)) (fun _ h9 => h9) rfl dX6_add_32 ?_
    refine lv_iload_n hx hb dX6_add_35 rfl (lv_at hl 2 rfl) ?_
    refine mv_iast (f := dr.2.1) hx hb hK hP hD hS 11 0 rfl rfl (by omega) (by decide) dX6_add_36 (fun H locs hP hD hS => ?_)
    have hP : va_P D vwCl (xW cI cL cZ ad tx td ((upd dr.1 dr.2.2.2.2.2.1 x0), (upd dr.2.1 dr.2.2.2.2.2.1 x1), dr.2.2.1, dr.2.2.2.1, dr.2.2.2.2.1, dr.2.2.2.2.2.1, dr.2.2.2.2.2.2) dy lb pn ps ks si kb) H := hP
    have hD : va_D A (xW cI cL cZ ad tx td ((upd dr.1 dr.2.2.2.2.2.1 x0), (upd dr.2.1 dr.2.2.2.2.2.1 x1), dr.2.2.1, dr.2.2.2.1, dr.2.2.2.2.1, dr.2.2.2.2.2.1, dr.2.2.2.2.2.2) dy lb pn ps ks si kb) := hD
    refine lv_aload_n hx hb dX6_add_37 rfl (lv_at hl 0 rfl) ?_
    refine va_get (D := D) (ci := 6) (v := .ref (ad 12)) (C := RX6) (T := TX6) (N := 7) hx hb hts (by decide +kernel) hown hK hP 9 rfl rfl 2 (by decide) (hts (.fieldLink RX6 18 "SummitTime$Told" "stayings" "[I") (by decide +kernel)) (fun _ h9 => h9) rfl dX6_add_38 ?_
    refine lv_aload_n hx hb dX6_add_41 rfl (lv_at hl 0 rfl) ?_
    refine va_get (D := D) (ci := 6) (v := .int (nI dr.2.2.2.2.2.1)) (C := RX6) (T := TX6) (N := 7) hx hb hts (by decide +kernel) hown hK hP 9 rfl rfl 5 (by decide) (hts (.fieldLink RX6 28 "SummitTime$Told" "people" "I") (by decide +kernel)) (fun _ h9 => h9) rfl dX6_add_42 ?_
    refine lv_iload_n hx hb dX6_add_45 rfl (lv_at hl 3 rfl) ?_
    refine mv_iast (f := dr.2.2.1) hx hb hK hP hD hS 12 0 rfl rfl (by omega) (by decide) dX6_add_46 (fun H locs hP hD hS => ?_)
    have hP : va_P D vwCl (xW cI cL cZ ad tx td ((upd dr.1 dr.2.2.2.2.2.1 x0), (upd dr.2.1 dr.2.2.2.2.2.1 x1), (upd dr.2.2.1 dr.2.2.2.2.2.1 x2), dr.2.2.2.1, dr.2.2.2.2.1, dr.2.2.2.2.2.1, dr.2.2.2.2.2.2) dy lb pn ps ks si kb) H := hP
    have hD : va_D A (xW cI cL cZ ad tx td ((upd dr.1 dr.2.2.2.2.2.1 x0), (upd dr.2.1 dr.2.2.2.2.2.1 x1), (upd dr.2.2.1 dr.2.2.2.2.2.1 x2), dr.2.2.2.1, dr.2.2.2.2.1, dr.2.2.2.2.2.1, dr.2.2.2.2.2.2) dy lb pn ps ks si kb) := hD
    refine lv_aload_n hx hb dX6_add_47 rfl (lv_at hl 0 rfl) ?_
    refine va_get (D := D) (ci := 6) (v := .ref (ad 13)) (C := RX6) (T := TX6) (N := 7) hx hb hts (by decide +kernel) hown hK hP 9 rfl rfl 3 (by decide) (hts (.fieldLink RX6 21 "SummitTime$Told" "rents" "[I") (by decide +kernel)) (fun _ h9 => h9) rfl dX6_add_48 ?_
    refine lv_aload_n hx hb dX6_add_51 rfl (lv_at hl 0 rfl) ?_
    refine va_get (D := D) (ci := 6) (v := .int (nI dr.2.2.2.2.2.1)) (C := RX6) (T := TX6) (N := 7) hx hb hts (by decide +kernel) hown hK hP 9 rfl rfl 5 (by decide) (hts (.fieldLink RX6 28 "SummitTime$Told" "people" "I") (by decide +kernel)) (fun _ h9 => h9) rfl dX6_add_52 ?_
    refine lv_iload hx hb dX6_add_55 (lv_at hl 4 rfl) ?_
    refine mv_iast (f := dr.2.2.2.1) hx hb hK hP hD hS 13 0 rfl rfl (by omega) (by decide) dX6_add_57 (fun H locs hP hD hS => ?_)
    have hP : va_P D vwCl (xW cI cL cZ ad tx td ((upd dr.1 dr.2.2.2.2.2.1 x0), (upd dr.2.1 dr.2.2.2.2.2.1 x1), (upd dr.2.2.1 dr.2.2.2.2.2.1 x2), (upd dr.2.2.2.1 dr.2.2.2.2.2.1 x3), dr.2.2.2.2.1, dr.2.2.2.2.2.1, dr.2.2.2.2.2.2) dy lb pn ps ks si kb) H := hP
    have hD : va_D A (xW cI cL cZ ad tx td ((upd dr.1 dr.2.2.2.2.2.1 x0), (upd dr.2.1 dr.2.2.2.2.2.1 x1), (upd dr.2.2.1 dr.2.2.2.2.2.1 x2), (upd dr.2.2.2.1 dr.2.2.2.2.2.1 x3), dr.2.2.2.2.1, dr.2.2.2.2.2.1, dr.2.2.2.2.2.2) dy lb pn ps ks si kb) := hD
    refine lv_aload_n hx hb dX6_add_58 rfl (lv_at hl 0 rfl) ?_
    refine lv_dup hx hb dX6_add_59 rfl ?_
    refine va_get (D := D) (ci := 6) (v := .int (nI dr.2.2.2.2.2.1)) (C := RX6) (T := TX6) (N := 7) hx hb hts (by decide +kernel) hown hK hP 9 rfl rfl 5 (by decide) (hts (.fieldLink RX6 28 "SummitTime$Told" "people" "I") (by decide +kernel)) (fun _ h9 => h9) rfl dX6_add_60 ?_
    refine lv_iconst (v := nI 1) hx hb dX6_add_63 rfl ?_
    refine mv_iadd hx hb dX6_add_64 ?_
    refine va_put (D := D) (ci := 6) (v := .int (nI (dr.2.2.2.2.2.1 + 1))) (ty := .int) (C := RX6) (T := TX6) (N := 7) hx hb hts (by decide +kernel) tyX6 tyX6_ok nmX6 hown hK hP hD hS 9 rfl rfl 5 (by decide) (hts (.fieldLink RX6 28 "SummitTime$Told" "people" "I") (by decide +kernel)) (fun _ h9 => h9) rfl (by decide +kernel) rfl rfl (Nat.le_of_ble_eq_true rfl) dX6_add_65 (fun H locs hP hD hS => ?_)
    have hP : va_P D vwCl (xW cI cL cZ ad tx td ((upd dr.1 dr.2.2.2.2.2.1 x0), (upd dr.2.1 dr.2.2.2.2.2.1 x1), (upd dr.2.2.1 dr.2.2.2.2.2.1 x2), (upd dr.2.2.2.1 dr.2.2.2.2.2.1 x3), dr.2.2.2.2.1, (dr.2.2.2.2.2.1 + 1), dr.2.2.2.2.2.2) dy lb pn ps ks si kb) H := hP
    have hD : va_D A (xW cI cL cZ ad tx td ((upd dr.1 dr.2.2.2.2.2.1 x0), (upd dr.2.1 dr.2.2.2.2.2.1 x1), (upd dr.2.2.1 dr.2.2.2.2.2.1 x2), (upd dr.2.2.2.1 dr.2.2.2.2.2.1 x3), dr.2.2.2.2.1, (dr.2.2.2.2.2.1 + 1), dr.2.2.2.2.2.2) dy lb pn ps ks si kb) := hD
    have hf : (f_X6_add dr x0 x1 x2 x3) = ((upd dr.1 dr.2.2.2.2.2.1 x0), (upd dr.2.1 dr.2.2.2.2.2.1 x1), (upd dr.2.2.1 dr.2.2.2.2.2.1 x2), (upd dr.2.2.2.1 dr.2.2.2.2.2.1 x3), dr.2.2.2.2.1, (dr.2.2.2.2.2.1 + 1), dr.2.2.2.2.2.2) := by rw [f_X6_add, if_pos c_1]
    exact W.vret hx hb hr (fun t ht hW => ⟨⟨((upd dr.1 dr.2.2.2.2.2.1 x0), (upd dr.2.1 dr.2.2.2.2.2.1 x1), (upd dr.2.2.1 dr.2.2.2.2.2.1 x2), (upd dr.2.2.2.1 dr.2.2.2.2.2.1 x3), dr.2.2.2.2.1, (dr.2.2.2.2.2.1 + 1), dr.2.2.2.2.2.2), rfl, hf.symm, va_Pt ht hP⟩, hS.F ht⟩) hS.2.2 dX6_add_68
  · have hf : (f_X6_add dr x0 x1 x2 x3) = dr := by rw [f_X6_add, if_neg c_1]
    exact W.vret hx hb hr (fun t ht hW => ⟨⟨dr, rfl, hf.symm, va_Pt ht hP⟩, hS.F ht⟩) hS.2.2 dX6_add_16
