/-! the law's loop -/
theorem lw_end {p : Program} {e : Env} {s : State} {m : MethodId} {below : List Frame} {meth : Method} {c : Code} {l : Launch} {b : Nat} (hx : p.tables.exec = Jvm.exec) (hb : c.code = code) (hr : meth.sig.returnType = ret) (hlocks : meth.locks = false) {H : Heap} {locs : List Loc} {ls : Array Slot} (hS : va_S (fun q : Nat => s.heap.size ≤ q) s.heap H locs) : W p l e room_1 s m #[Value.ref b] below meth c H locs 45 1797 (lw_Z below #[Value.ref b] s) (F0 m 865 ls []) := by
  refine lv_iconst (v := 1) hx hb dL_law_865 (by decide) ?_
  refine va_forget (fun q hq => hS.2.2 q hq) ?_
  refine W.widen (k := 600000) (n := 7302250) (Nat.le_of_ble_eq_true rfl) (Nat.le_of_ble_eq_true rfl) ?_
  exact lw_ret hx hb hr hlocks dL_law_866
set_option maxHeartbeats 4000000 in
set_option maxRecDepth 100000 in
theorem law_loop {p : Program} {e : Env} {s : State} {m : MethodId} {below : List Frame} {meth : Method} {c : Code} {l : Launch} {b L : Nat} {xs : Nat → Int32} (hL : L ≤ 320) (C0 : lw_At p s m meth c b L xs) {D : va_G} {cI cL cZ : ClassId} {AX AM : Nat → Prop} {adx adm adK adV : Nat → Nat} {tO : Nat} (E0 : lwE s D cI cL cZ AX AM adx adm adK adV tO) : ∀ (n i : Nat), L < i + n → i ≤ L + 5 → ∀ (H : Heap) (locs : List Loc) (ls : Array Slot), va_S (fun q : Nat => s.heap.size ≤ q) s.heap H locs → lwJ D cI cL cZ adx adm H → lv_has ls 4 [(0, .ref b), (1, .ref (adx 0)), (2, .ref (adm 0)), (3, .int (nI i))] → W p l e room_1 s m #[Value.ref b] below meth c H locs 45 1797 (lw_Z below #[Value.ref b] s) (F0 m 18 ls []) := by
  obtain ⟨hx, hb, hr, hml, hown0, hts0, hX, hbl, hlocks, hgv⟩ := id C0
  have hbA : ¬ (fun q : Nat => s.heap.size ≤ q) b := Nat.not_le.mpr hbl
  intro n
  induction n with
  | zero =>
    intro i hn hi5 H locs ls hS hJ hl
    refine lv_iload_n hx hb dL_law_18 rfl (lv_at hl 3 rfl) ?_
    refine lv_aload_n hx hb dL_law_19 rfl (lv_at hl 0 rfl) ?_
    refine va_slen hx hb hX hbl hbA hS dL_law_20 ?_
    refine lv_iconst (v := nI 5) hx hb dL_law_21 rfl ?_
    refine lv_isub hx hb dL_law_22 ?_
    refine lv_icmp_gt (tgt := 865) hx hb dL_law_23 (by decide) (fun _ => lw_end hx hb hr hlocks hS) (fun c_1 => absurd ?_ c_1)
    rw [Int32.lt_iff_toInt_lt, show Int32.ofNat L = nI L from rfl, pk_sub_toInt (by omega) (by decide), nI_toInt (by omega)]
    omega
  | succ n ih =>
    intro i hn hi5 H locs ls hS hJ hl
    refine lv_iload_n hx hb dL_law_18 rfl (lv_at hl 3 rfl) ?_
    refine lv_aload_n hx hb dL_law_19 rfl (lv_at hl 0 rfl) ?_
    refine va_slen hx hb hX hbl hbA hS dL_law_20 ?_
    refine lv_iconst (v := nI 5) hx hb dL_law_21 rfl ?_
    refine lv_isub hx hb dL_law_22 ?_
    refine lv_icmp_gt (tgt := 865) hx hb dL_law_23 (by decide) (fun _ => lw_end hx hb hr hlocks hS) (fun c_1 => ?_)
    have hi : i + 5 ≤ L := by
      rw [Int32.lt_iff_toInt_lt, show Int32.ofNat L = nI L from rfl, pk_sub_toInt (by omega) (by decide), nI_toInt (by omega)] at c_1
      omega
    have kk : ∀ (H1 : Heap) (locs1 : List Loc), va_S (fun q : Nat => s.heap.size ≤ q) s.heap H1 locs1 → lwJ D cI cL cZ adx adm H1 → W p l e room_1 s m #[Value.ref b] below meth c H1 locs1 45 1797 (lw_Z below #[Value.ref b] s) (F0 m 859 ls []) := by
      intro H1 locs1 hS1 hJ1
      refine mv_iinc (y := i + 5) (lv' := [(3, .int (nI (i + 5))), (0, .ref b), (1, .ref (adx 0)), (2, .ref (adm 0))]) hx hb dL_law_859 hl (k := 3) rfl (by rw [show Int32.ofInt 5 = nI 5 by decide]; exact nI_add i 5) (by decide) rfl (fun ls hl => ?_)
      refine lv_goto (tgt := 18) hx hb dL_law_862 (by decide) ?_
      exact ih (i + 5) (by omega) (by omega) H1 locs1 ls hS1 hJ1 (lv_sub hl [1, 2, 3, 0] rfl)
    refine lv_aload_n hx hb dL_law_26 rfl (lv_at hl 0 rfl) ?_
    refine lv_iload_n hx hb dL_law_27 rfl (lv_at hl 3 rfl) ?_
    refine mv_sld hx hb hX hbl hbA hS (by omega) hL dL_law_28 ?_
    refine lv_bipush (v := nI 31) hx hb dL_law_29 rfl ?_
    refine lv_iand hx hb dL_law_31 ?_
    obtain ⟨j, hj, ej⟩ := pk_andE (xs i) (m := nI 31) 5 (by decide)
    refine mv_top ej ?_
    by_cases h27 : 27 ≤ j
    · refine lv_tableOut (tgt := 859) hx hb dL_law_32 (Or.inr ?_) (by decide) (kk _ _ hS hJ)
      rw [nI_toInt (by omega)]
      omega
    · have hc : j = 0 ∨ j = 1 ∨ j = 2 ∨ j = 3 ∨ j = 4 ∨ j = 5 ∨ j = 6 ∨ j = 7 ∨ j = 8 ∨ j = 9 ∨ j = 10 ∨ j = 11 ∨ j = 12 ∨ j = 13 ∨ j = 14 ∨ j = 15 ∨ j = 16 ∨ j = 17 ∨ j = 18 ∨ j = 19 ∨ j = 20 ∨ j = 21 ∨ j = 22 ∨ j = 23 ∨ j = 24 ∨ j = 25 ∨ j = 26 := by omega
      rcases hc with rfl | rfl | rfl | rfl | rfl | rfl | rfl | rfl | rfl | rfl | rfl | rfl | rfl | rfl | rfl | rfl | rfl | rfl | rfl | rfl | rfl | rfl | rfl | rfl | rfl | rfl | rfl
      · exact lv_tableIn (off := 124) (tgt := 156) hx hb dL_law_32 (by decide) (by decide) (by decide) (by decide) (lc_write_ hL C0 E0 hi hS hJ hl kk)
      · exact lv_tableIn (off := 147) (tgt := 179) hx hb dL_law_32 (by decide) (by decide) (by decide) (by decide) (lc_erase_ hL C0 E0 hi hS hJ hl kk)
      · exact lv_tableIn (off := 160) (tgt := 192) hx hb dL_law_32 (by decide) (by decide) (by decide) (by decide) (lc_fault_ hL C0 E0 hi hS hJ hl kk)
      · exact lv_tableIn (off := 173) (tgt := 205) hx hb dL_law_32 (by decide) (by decide) (by decide) (by decide) (lc_top_ hL C0 E0 hi hS hJ hl kk)
      · exact lv_tableIn (off := 186) (tgt := 218) hx hb dL_law_32 (by decide) (by decide) (by decide) (by decide) (lc_person_ hL C0 E0 hi hS hJ hl kk)
      · exact lv_tableIn (off := 219) (tgt := 251) hx hb dL_law_32 (by decide) (by decide) (by decide) (by decide) (lc_second_ hL C0 E0 hi hS hJ hl kk)
      · exact lv_tableIn (off := 252) (tgt := 284) hx hb dL_law_32 (by decide) (by decide) (by decide) (by decide) (lc_as_ hL C0 E0 hi hS hJ hl kk)
      · exact lv_tableIn (off := 285) (tgt := 317) hx hb dL_law_32 (by decide) (by decide) (by decide) (by decide) (lc_start_ hL C0 E0 hi hS hJ hl kk)
      · exact lv_tableIn (off := 318) (tgt := 350) hx hb dL_law_32 (by decide) (by decide) (by decide) (by decide) (lc_stays_ hL C0 E0 hi hS hJ hl kk)
      · exact lv_tableIn (off := 341) (tgt := 373) hx hb dL_law_32 (by decide) (by decide) (by decide) (by decide) (lc_rope_ hL C0 E0 hi hS hJ hl kk)
      · exact lv_tableIn (off := 374) (tgt := 406) hx hb dL_law_32 (by decide) (by decide) (by decide) (by decide) (lc_clock_ hL C0 E0 hi hS hJ hl kk)
      · exact lv_tableIn (off := 397) (tgt := 429) hx hb dL_law_32 (by decide) (by decide) (by decide) (by decide) (lc_halve_ hL C0 E0 hi hS hJ hl kk)
      · exact lv_tableIn (off := 430) (tgt := 462) hx hb dL_law_32 (by decide) (by decide) (by decide) (by decide) (lc_sell_ hL C0 E0 hi hS hJ hl kk)
      · exact lv_tableIn (off := 463) (tgt := 495) hx hb dL_law_32 (by decide) (by decide) (by decide) (by decide) (lc_undo_ hL C0 E0 hi hS hJ hl kk)
      · exact lv_tableIn (off := 476) (tgt := 508) hx hb dL_law_32 (by decide) (by decide) (by decide) (by decide) (lc_keep_ hL C0 E0 hi hS hJ hl kk)
      · exact lv_tableIn (off := 499) (tgt := 531) hx hb dL_law_32 (by decide) (by decide) (by decide) (by decide) (lc_back_ hL C0 E0 hi hS hJ hl kk)
      · exact lv_tableIn (off := 522) (tgt := 554) hx hb dL_law_32 (by decide) (by decide) (by decide) (by decide) (lc_best_ hL C0 E0 hi hS hJ hl kk)
      · exact lv_tableIn (off := 555) (tgt := 587) hx hb dL_law_32 (by decide) (by decide) (by decide) (by decide) (lc_order_ hL C0 E0 hi hS hJ hl kk)
      · exact lv_tableIn (off := 598) (tgt := 630) hx hb dL_law_32 (by decide) (by decide) (by decide) (by decide) (lc_reached_ hL C0 E0 hi hS hJ hl kk)
      · exact lv_tableIn (off := 612) (tgt := 644) hx hb dL_law_32 (by decide) (by decide) (by decide) (by decide) (lc_free_ hL C0 E0 hi hS hJ hl kk)
      · exact lv_tableIn (off := 636) (tgt := 668) hx hb dL_law_32 (by decide) (by decide) (by decide) (by decide) (lc_ropes_ hL C0 E0 hi hS hJ hl kk)
      · exact lv_tableIn (off := 659) (tgt := 691) hx hb dL_law_32 (by decide) (by decide) (by decide) (by decide) (lc_together_ hL C0 E0 hi hS hJ hl kk)
      · exact lv_tableIn (off := 692) (tgt := 724) hx hb dL_law_32 (by decide) (by decide) (by decide) (by decide) (lc_seen_ hL C0 E0 hi hS hJ hl kk)
      · exact lv_tableIn (off := 725) (tgt := 757) hx hb dL_law_32 (by decide) (by decide) (by decide) (by decide) (lc_forget_ hL C0 E0 hi hS hJ hl kk)
      · exact lv_tableIn (off := 738) (tgt := 770) hx hb dL_law_32 (by decide) (by decide) (by decide) (by decide) (lc_clocks_ hL C0 E0 hi hS hJ hl kk)
      · exact lv_tableIn (off := 751) (tgt := 783) hx hb dL_law_32 (by decide) (by decide) (by decide) (by decide) (lc_clear_ hL C0 E0 hi hS hJ hl kk)
      · exact lv_tableIn (off := 804) (tgt := 836) hx hb dL_law_32 (by decide) (by decide) (by decide) (by decide) (lc_count_ hL C0 E0 hi hS hJ hl kk)
