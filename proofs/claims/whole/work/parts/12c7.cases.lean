/-! the law: clear, count -/
set_option maxHeartbeats 4000000 in
set_option maxRecDepth 100000 in
theorem lc_clear_ {p : Program} {e : Env} {s : State} {m : MethodId} {below : List Frame} {meth : Method} {c : Code} {l : Launch} {b L : Nat} {xs : Nat → Int32} (hL : L ≤ 320) (C0 : lw_At p s m meth c b L xs) {D : va_G} {cI cL cZ : ClassId} {AX AM : Nat → Prop} {adx adm adK adV : Nat → Nat} {tO : Nat} (E0 : lwE s D cI cL cZ AX AM adx adm adK adV tO) {i : Nat} (hi : i + 5 ≤ L) {Q : State → Prop} {H : Heap} {locs : List Loc} {ls : Array Slot} (hS : va_S (fun q : Nat => s.heap.size ≤ q) s.heap H locs) (hJ : lwJ D cI cL cZ adx adm H) (hl : lv_has ls 4 [(0, .ref b), (1, .ref (adx 0)), (2, .ref (adm 0)), (3, .int (nI i))]) (kk : ∀ (H1 : Heap) (locs1 : List Loc), va_S (fun q : Nat => s.heap.size ≤ q) s.heap H1 locs1 → lwJ D cI cL cZ adx adm H1 → W p l e room_1 s m #[Value.ref b] below meth c H1 locs1 45 1797 Q (F0 m 859 ls [])) : W p l e room_1 s m #[Value.ref b] below meth c H locs 45 1797 Q (F0 m 783 ls []) := by
  obtain ⟨hx, hb, hr, hml, hown0, hts0, hX, hbl, hlocks, hgv⟩ := id C0
  obtain ⟨hK, hE, hSE, hSL, hOE, hDx, hDm, hAX, hAM, hXM⟩ := E0
  have hown : s.vm.findClass RL = some m.cls := hown0
  have hts : ∀ w ∈ wsL_law, w.before #[Value.ref b] s = true := fun w hw => hts0 w (wsL_law_in w hw)
  have hbA : ¬ (fun q : Nat => s.heap.size ≤ q) b := Nat.not_le.mpr hbl
  obtain ⟨tx, td, dr, dy, lb, pn, ps, ks, si, kb, to, st, mt, rd, un, kp, rw_, se, hPx, hPm, rX, rT, rD, rU, rK, rS, rR⟩ := hJ
  have h6 : pN td ≤ 6 := rT.1
  have hm := told_m rT
  have hm6 : mN to ≤ 6 := by rw [hm.2.1]; exact h6
  refine lv_aload_n hx hb dL_law_783 rfl (lv_at hl 1 rfl) ?_
  refine lv_aload_n hx hb dL_law_784 rfl (lv_at hl 0 rfl) ?_
  refine lv_iload_n hx hb dL_law_785 rfl (lv_at hl 3 rfl) ?_
  refine lv_iconst (v := nI 1) hx hb dL_law_786 rfl ?_
  refine mv_iadd hx hb dL_law_787 ?_
  refine mv_sld hx hb hX hbl hbA hS (by omega) hL dL_law_788 ?_
  refine lv_aload_n hx hb dL_law_789 rfl (lv_at hl 0 rfl) ?_
  refine lv_iload_n hx hb dL_law_790 rfl (lv_at hl 3 rfl) ?_
  refine lv_iconst (v := nI 2) hx hb dL_law_791 rfl ?_
  refine mv_iadd hx hb dL_law_792 ?_
  refine mv_sld hx hb hX hbl hbA hS (by omega) hL dL_law_793 ?_
  refine lv_aload_n hx hb dL_law_794 rfl (lv_at hl 0 rfl) ?_
  refine lv_iload_n hx hb dL_law_795 rfl (lv_at hl 3 rfl) ?_
  refine lv_iconst (v := nI 3) hx hb dL_law_796 rfl ?_
  refine mv_iadd hx hb dL_law_797 ?_
  refine mv_sld hx hb hX hbl hbA hS (by omega) hL dL_law_798 ?_
  refine lv_aload_n hx hb dL_law_799 rfl (lv_at hl 0 rfl) ?_
  refine lv_iload_n hx hb dL_law_800 rfl (lv_at hl 3 rfl) ?_
  refine lv_iconst (v := nI 4) hx hb dL_law_801 rfl ?_
  refine mv_iadd hx hb dL_law_802 ?_
  refine mv_sld hx hb hX hbl hbA hS (by omega) hL dL_law_803 ?_
  refine vp_callSi (va_Run.run (va_runV (As := [.int (xs (i + 1)), .int (xs (i + 2)), .int (xs (i + 3)), .int (xs (i + 4))]) (rest := []) ⟨hx, hb, hml, hown, hts⟩ (c_X7_clear l D cI cL cZ adx AX tx td dr dy lb pn ps ks si kb (xs (i + 1)) (xs (i + 2)) (xs (i + 3)) (xs (i + 4)) (rel_bc rT rD (xs (i + 1)))) (cwV 4 hts gL_law_X7_clear rfl rfl rfl (by decide +kernel) ⟨Nat.le_of_ble_eq_true rfl, Nat.le_of_ble_eq_true rfl⟩) ⟨sR_fb, va_recv hK hPx (ci := 7) (q0 := 0) rfl rfl, sR_at hPx hK (hDx _ _ _ _ _ _ _ _ _ _) hE⟩ rfl rfl hl.1 rfl (lv_room (Nat.le_of_ble_eq_true rfl)) dL_law_804 ⟨Nat.le_of_ble_eq_true rfl, Nat.le_of_ble_eq_true rfl⟩)) (fun r1 hr1 => ?_)
  refine lv_aload_n hx hb dL_law_807 rfl (lv_at hl 2 rfl) ?_
  refine lv_aload_n hx hb dL_law_808 rfl (lv_at hl 0 rfl) ?_
  refine lv_iload_n hx hb dL_law_809 rfl (lv_at hl 3 rfl) ?_
  refine lv_iconst (v := nI 1) hx hb dL_law_810 rfl ?_
  refine mv_iadd hx hb dL_law_811 ?_
  refine mv_sld hx hb hX hbl hbA hS (by omega) hL dL_law_812 ?_
  refine lv_aload_n hx hb dL_law_813 rfl (lv_at hl 0 rfl) ?_
  refine lv_iload_n hx hb dL_law_814 rfl (lv_at hl 3 rfl) ?_
  refine lv_iconst (v := nI 2) hx hb dL_law_815 rfl ?_
  refine mv_iadd hx hb dL_law_816 ?_
  refine mv_sld hx hb hX hbl hbA hS (by omega) hL dL_law_817 ?_
  refine lv_aload_n hx hb dL_law_818 rfl (lv_at hl 0 rfl) ?_
  refine lv_iload_n hx hb dL_law_819 rfl (lv_at hl 3 rfl) ?_
  refine lv_iconst (v := nI 3) hx hb dL_law_820 rfl ?_
  refine mv_iadd hx hb dL_law_821 ?_
  refine mv_sld hx hb hX hbl hbA hS (by omega) hL dL_law_822 ?_
  refine lv_aload_n hx hb dL_law_823 rfl (lv_at hl 0 rfl) ?_
  refine lv_iload_n hx hb dL_law_824 rfl (lv_at hl 3 rfl) ?_
  refine lv_iconst (v := nI 4) hx hb dL_law_825 rfl ?_
  refine mv_iadd hx hb dL_law_826 ?_
  refine mv_sld hx hb hX hbl hbA hS (by omega) hL dL_law_827 ?_
  refine vp_callSi (va_Run.run (va_runV (As := [.int (xs (i + 1)), .int (xs (i + 2)), .int (xs (i + 3)), .int (xs (i + 4))]) (rest := [.int r1]) ⟨hx, hb, hml, hown, hts⟩ (c_X8_clear l D cI cL cZ adm AM to st mt rd un kp rw_ se (xs (i + 1)) (xs (i + 2)) (xs (i + 3)) (xs (i + 4)) hm.1 hm6 (rel_sm rT rD)) (cwV 4 hts gL_law_X8_clear rfl rfl rfl (by decide +kernel) ⟨Nat.le_of_ble_eq_true rfl, Nat.le_of_ble_eq_true rfl⟩) ⟨sR_fb, va_recv hK hPm (ci := 8) (q0 := 0) rfl rfl, sR_at hPm hK (hDm _ _ _ _ _ _ _ _) hE⟩ rfl rfl hl.1 rfl (lv_room (Nat.le_of_ble_eq_true rfl)) dL_law_828 ⟨Nat.le_of_ble_eq_true rfl, Nat.le_of_ble_eq_true rfl⟩)) (fun r2 hr2 => ?_)
  have hq := clear_eq rT rD (xs (i + 1)) (xs (i + 2)) (xs (i + 3)) (xs (i + 4))
  have he : r1 = r2 := by rw [hr1, hr2]; exact hq
  refine lv_icmp_eq (tgt := 859) hx hb dL_law_831 (by decide) (fun _ => ?_) (fun c_1 => absurd he c_1)
  exact kk _ _ hS ⟨tx, td, dr, dy, lb, pn, ps, ks, si, kb, to, st, mt, rd, un, kp, rw_, se, hPx, hPm, rX, rT, rD, rU, rK, rS, rR⟩
set_option maxHeartbeats 4000000 in
set_option maxRecDepth 100000 in
theorem lc_count_ {p : Program} {e : Env} {s : State} {m : MethodId} {below : List Frame} {meth : Method} {c : Code} {l : Launch} {b L : Nat} {xs : Nat → Int32} (hL : L ≤ 320) (C0 : lw_At p s m meth c b L xs) {D : va_G} {cI cL cZ : ClassId} {AX AM : Nat → Prop} {adx adm adK adV : Nat → Nat} {tO : Nat} (E0 : lwE s D cI cL cZ AX AM adx adm adK adV tO) {i : Nat} (hi : i + 5 ≤ L) {Q : State → Prop} {H : Heap} {locs : List Loc} {ls : Array Slot} (hS : va_S (fun q : Nat => s.heap.size ≤ q) s.heap H locs) (hJ : lwJ D cI cL cZ adx adm H) (hl : lv_has ls 4 [(0, .ref b), (1, .ref (adx 0)), (2, .ref (adm 0)), (3, .int (nI i))]) (kk : ∀ (H1 : Heap) (locs1 : List Loc), va_S (fun q : Nat => s.heap.size ≤ q) s.heap H1 locs1 → lwJ D cI cL cZ adx adm H1 → W p l e room_1 s m #[Value.ref b] below meth c H1 locs1 45 1797 Q (F0 m 859 ls [])) : W p l e room_1 s m #[Value.ref b] below meth c H locs 45 1797 Q (F0 m 836 ls []) := by
  obtain ⟨hx, hb, hr, hml, hown0, hts0, hX, hbl, hlocks, hgv⟩ := id C0
  obtain ⟨hK, hE, hSE, hSL, hOE, hDx, hDm, hAX, hAM, hXM⟩ := E0
  have hown : s.vm.findClass RL = some m.cls := hown0
  have hts : ∀ w ∈ wsL_law, w.before #[Value.ref b] s = true := fun w hw => hts0 w (wsL_law_in w hw)
  have hbA : ¬ (fun q : Nat => s.heap.size ≤ q) b := Nat.not_le.mpr hbl
  obtain ⟨tx, td, dr, dy, lb, pn, ps, ks, si, kb, to, st, mt, rd, un, kp, rw_, se, hPx, hPm, rX, rT, rD, rU, rK, rS, rR⟩ := hJ
  have h6 : pN td ≤ 6 := rT.1
  have hm := told_m rT
  have hm6 : mN to ≤ 6 := by rw [hm.2.1]; exact h6
  refine lv_aload_n hx hb dL_law_836 rfl (lv_at hl 1 rfl) ?_
  refine lv_aload_n hx hb dL_law_837 rfl (lv_at hl 0 rfl) ?_
  refine lv_iload_n hx hb dL_law_838 rfl (lv_at hl 3 rfl) ?_
  refine lv_iconst (v := nI 1) hx hb dL_law_839 rfl ?_
  refine mv_iadd hx hb dL_law_840 ?_
  refine mv_sld hx hb hX hbl hbA hS (by omega) hL dL_law_841 ?_
  refine vp_callSi (va_Run.run (va_runV (As := [.int (xs (i + 1))]) (rest := []) ⟨hx, hb, hml, hown, hts⟩ (c_X7_count l D cI cL cZ adx AX tx td dr dy lb pn ps ks si kb (xs (i + 1)) rT.1) (cwV 1 hts gL_law_X7_count rfl rfl rfl (by decide +kernel) ⟨Nat.le_of_ble_eq_true rfl, Nat.le_of_ble_eq_true rfl⟩) ⟨sR_fb, va_recv hK hPx (ci := 7) (q0 := 0) rfl rfl, sR_at hPx hK (hDx _ _ _ _ _ _ _ _ _ _) hE⟩ rfl rfl hl.1 rfl (lv_room (Nat.le_of_ble_eq_true rfl)) dL_law_842 ⟨Nat.le_of_ble_eq_true rfl, Nat.le_of_ble_eq_true rfl⟩)) (fun r1 hr1 => ?_)
  refine lv_aload_n hx hb dL_law_845 rfl (lv_at hl 2 rfl) ?_
  refine lv_aload_n hx hb dL_law_846 rfl (lv_at hl 0 rfl) ?_
  refine lv_iload_n hx hb dL_law_847 rfl (lv_at hl 3 rfl) ?_
  refine lv_iconst (v := nI 1) hx hb dL_law_848 rfl ?_
  refine mv_iadd hx hb dL_law_849 ?_
  refine mv_sld hx hb hX hbl hbA hS (by omega) hL dL_law_850 ?_
  refine vp_callSi (va_Run.run (va_runV (As := [.int (xs (i + 1))]) (rest := [.int r1]) ⟨hx, hb, hml, hown, hts⟩ (c_X8_count l D cI cL cZ adm AM to st mt rd un kp rw_ se (xs (i + 1)) hm.1 hm6 (rel_so h6 rD)) (cwV 1 hts gL_law_X8_count rfl rfl rfl (by decide +kernel) ⟨Nat.le_of_ble_eq_true rfl, Nat.le_of_ble_eq_true rfl⟩) ⟨sR_fb, va_recv hK hPm (ci := 8) (q0 := 0) rfl rfl, sR_at hPm hK (hDm _ _ _ _ _ _ _ _) hE⟩ rfl rfl hl.1 rfl (lv_room (Nat.le_of_ble_eq_true rfl)) dL_law_851 ⟨Nat.le_of_ble_eq_true rfl, Nat.le_of_ble_eq_true rfl⟩)) (fun r2 hr2 => ?_)
  have hq := count_eq rT rD rS.2.1 rU.2.2.1 rX.2.1 (xs (i + 1))
  have he : r1 = r2 := by rw [hr1, hr2]; exact hq
  refine lv_icmp_eq (tgt := 859) hx hb dL_law_854 (by decide) (fun _ => ?_) (fun c_1 => absurd he c_1)
  exact kk _ _ hS ⟨tx, td, dr, dy, lb, pn, ps, ks, si, kb, to, st, mt, rd, un, kp, rw_, se, hPx, hPm, rX, rT, rD, rU, rK, rS, rR⟩
