/-! the law: best, order -/
set_option maxHeartbeats 4000000 in
set_option maxRecDepth 100000 in
theorem lc_best_ {p : Program} {e : Env} {s : State} {m : MethodId} {below : List Frame} {meth : Method} {c : Code} {l : Launch} {b L : Nat} {xs : Nat → Int32} (hL : L ≤ 320) (C0 : lw_At p s m meth c b L xs) {D : va_G} {cI cL cZ : ClassId} {AX AM : Nat → Prop} {adx adm adK adV : Nat → Nat} {tO : Nat} (E0 : lwE s D cI cL cZ AX AM adx adm adK adV tO) {i : Nat} (hi : i + 5 ≤ L) {Q : State → Prop} {H : Heap} {locs : List Loc} {ls : Array Slot} (hS : va_S (fun q : Nat => s.heap.size ≤ q) s.heap H locs) (hJ : lwJ D cI cL cZ adx adm H) (hl : lv_has ls 4 [(0, .ref b), (1, .ref (adx 0)), (2, .ref (adm 0)), (3, .int (nI i))]) (kk : ∀ (H1 : Heap) (locs1 : List Loc), va_S (fun q : Nat => s.heap.size ≤ q) s.heap H1 locs1 → lwJ D cI cL cZ adx adm H1 → W p l e room_1 s m #[Value.ref b] below meth c H1 locs1 45 1797 Q (F0 m 859 ls [])) : W p l e room_1 s m #[Value.ref b] below meth c H locs 45 1797 Q (F0 m 554 ls []) := by
  obtain ⟨hx, hb, hr, hml, hown0, hts0, hX, hbl, hlocks, hgv⟩ := id C0
  obtain ⟨hK, hE, hSE, hSL, hOE, hDx, hDm, hAX, hAM, hXM⟩ := E0
  have hown : s.vm.findClass RL = some m.cls := hown0
  have hts : ∀ w ∈ wsL_law, w.before #[Value.ref b] s = true := fun w hw => hts0 w (wsL_law_in w hw)
  have hbA : ¬ (fun q : Nat => s.heap.size ≤ q) b := Nat.not_le.mpr hbl
  obtain ⟨tx, td, dr, dy, lb, pn, ps, ks, si, kb, to, st, mt, rd, un, kp, rw_, se, hPx, hPm, rX, rT, rD, rU, rK, rS, rR⟩ := hJ
  have h6 : pN td ≤ 6 := rT.1
  have hm := told_m rT
  have hm6 : mN to ≤ 6 := by rw [hm.2.1]; exact h6
  refine lv_aload_n hx hb dL_law_554 rfl (lv_at hl 1 rfl) ?_
  refine lv_aload_n hx hb dL_law_555 rfl (lv_at hl 0 rfl) ?_
  refine lv_iload_n hx hb dL_law_556 rfl (lv_at hl 3 rfl) ?_
  refine lv_iconst (v := nI 1) hx hb dL_law_557 rfl ?_
  refine mv_iadd hx hb dL_law_558 ?_
  refine mv_sld hx hb hX hbl hbA hS (by omega) hL dL_law_559 ?_
  refine lv_aload_n hx hb dL_law_560 rfl (lv_at hl 0 rfl) ?_
  refine lv_iload_n hx hb dL_law_561 rfl (lv_at hl 3 rfl) ?_
  refine lv_iconst (v := nI 2) hx hb dL_law_562 rfl ?_
  refine mv_iadd hx hb dL_law_563 ?_
  refine mv_sld hx hb hX hbl hbA hS (by omega) hL dL_law_564 ?_
  refine vp_callSi (va_Run.run (va_runV (As := [.int (xs (i + 1)), .int (xs (i + 2))]) (rest := []) ⟨hx, hb, hml, hown, hts⟩ (c_X7_best l D cI cL cZ adx AX tx td dr dy lb pn ps ks si kb (xs (i + 1)) (xs (i + 2)) rT.1) (cwV 2 hts gL_law_X7_best rfl rfl rfl (by decide +kernel) ⟨Nat.le_of_ble_eq_true rfl, Nat.le_of_ble_eq_true rfl⟩) ⟨sR_fb, va_recv hK hPx (ci := 7) (q0 := 0) rfl rfl, sR_at hPx hK (hDx _ _ _ _ _ _ _ _ _ _) hE⟩ rfl rfl hl.1 rfl (lv_room (Nat.le_of_ble_eq_true rfl)) dL_law_565 ⟨Nat.le_of_ble_eq_true rfl, Nat.le_of_ble_eq_true rfl⟩)) (fun r1 hr1 => ?_)
  refine lv_aload_n hx hb dL_law_568 rfl (lv_at hl 2 rfl) ?_
  refine lv_aload_n hx hb dL_law_569 rfl (lv_at hl 0 rfl) ?_
  refine lv_iload_n hx hb dL_law_570 rfl (lv_at hl 3 rfl) ?_
  refine lv_iconst (v := nI 1) hx hb dL_law_571 rfl ?_
  refine mv_iadd hx hb dL_law_572 ?_
  refine mv_sld hx hb hX hbl hbA hS (by omega) hL dL_law_573 ?_
  refine lv_aload_n hx hb dL_law_574 rfl (lv_at hl 0 rfl) ?_
  refine lv_iload_n hx hb dL_law_575 rfl (lv_at hl 3 rfl) ?_
  refine lv_iconst (v := nI 2) hx hb dL_law_576 rfl ?_
  refine mv_iadd hx hb dL_law_577 ?_
  refine mv_sld hx hb hX hbl hbA hS (by omega) hL dL_law_578 ?_
  refine va_calli (va_runV (As := [.int (xs (i + 1)), .int (xs (i + 2))]) (rest := [.int r1]) ⟨hx, hb, hml, hown, hts⟩ (c_X8_best l D cI cL cZ adm AM to st mt rd un kp rw_ se (xs (i + 1)) (xs (i + 2)) hm.1 hm6 (rel_so h6 rD)) (cwV 2 hts gL_law_X8_best rfl rfl rfl (by decide +kernel) ⟨Nat.le_of_ble_eq_true rfl, Nat.le_of_ble_eq_true rfl⟩) ⟨sR_fb, va_recv hK hPm (ci := 8) (q0 := 0) rfl rfl, sR_at hPm hK (hDm _ _ _ _ _ _ _ _) hE⟩ rfl rfl hl.1 rfl (lv_room (Nat.le_of_ble_eq_true rfl)) dL_law_579 ⟨Nat.le_of_ble_eq_true rfl, Nat.le_of_ble_eq_true rfl⟩) hS (fun q _ h => hAM q h) (fun q h => hAM q h) (fun r2 v1 t2 H locs ht2 hvm2 hw2 hB2 hz2 hk2 hS => ?_)
  obtain ⟨hr2, hv1⟩ := hw2
  rw [ht2] at hB2
  have hPm : va_P D vwCl (mW cI cL cZ adm to v1 mt rd un kp rw_ se) H := hB2
  have hPx := keepX hPx (hDx _ _ _ _ _ _ _ _ _ _) hXM hk2
  have hq := best_ok rT rD (xs (i + 1)) (xs (i + 2))
  rw [← hv1] at hq
  have he : r1 = r2 := by rw [hr1, hr2]; exact hq.1
  refine lv_icmp_eq (tgt := 859) hx hb dL_law_582 (by decide) (fun _ => ?_) (fun c_1 => absurd he c_1)
  exact kk _ _ hS ⟨tx, td, dr, dy, lb, pn, ps, ks, si, kb, to, v1, mt, rd, un, kp, rw_, se, hPx, hPm, rX, rT, hq.2, rU, rK, rS, rR⟩
set_option maxHeartbeats 4000000 in
set_option maxRecDepth 100000 in
theorem lc_order_ {p : Program} {e : Env} {s : State} {m : MethodId} {below : List Frame} {meth : Method} {c : Code} {l : Launch} {b L : Nat} {xs : Nat → Int32} (hL : L ≤ 320) (C0 : lw_At p s m meth c b L xs) {D : va_G} {cI cL cZ : ClassId} {AX AM : Nat → Prop} {adx adm adK adV : Nat → Nat} {tO : Nat} (E0 : lwE s D cI cL cZ AX AM adx adm adK adV tO) {i : Nat} (hi : i + 5 ≤ L) {Q : State → Prop} {H : Heap} {locs : List Loc} {ls : Array Slot} (hS : va_S (fun q : Nat => s.heap.size ≤ q) s.heap H locs) (hJ : lwJ D cI cL cZ adx adm H) (hl : lv_has ls 4 [(0, .ref b), (1, .ref (adx 0)), (2, .ref (adm 0)), (3, .int (nI i))]) (kk : ∀ (H1 : Heap) (locs1 : List Loc), va_S (fun q : Nat => s.heap.size ≤ q) s.heap H1 locs1 → lwJ D cI cL cZ adx adm H1 → W p l e room_1 s m #[Value.ref b] below meth c H1 locs1 45 1797 Q (F0 m 859 ls [])) : W p l e room_1 s m #[Value.ref b] below meth c H locs 45 1797 Q (F0 m 587 ls []) := by
  obtain ⟨hx, hb, hr, hml, hown0, hts0, hX, hbl, hlocks, hgv⟩ := id C0
  obtain ⟨hK, hE, hSE, hSL, hOE, hDx, hDm, hAX, hAM, hXM⟩ := E0
  have hown : s.vm.findClass RL = some m.cls := hown0
  have hts : ∀ w ∈ wsL_law, w.before #[Value.ref b] s = true := fun w hw => hts0 w (wsL_law_in w hw)
  have hbA : ¬ (fun q : Nat => s.heap.size ≤ q) b := Nat.not_le.mpr hbl
  obtain ⟨tx, td, dr, dy, lb, pn, ps, ks, si, kb, to, st, mt, rd, un, kp, rw_, se, hPx, hPm, rX, rT, rD, rU, rK, rS, rR⟩ := hJ
  have h6 : pN td ≤ 6 := rT.1
  have hm := told_m rT
  have hm6 : mN to ≤ 6 := by rw [hm.2.1]; exact h6
  refine lv_aload_n hx hb dL_law_587 rfl (lv_at hl 1 rfl) ?_
  refine lv_aload_n hx hb dL_law_588 rfl (lv_at hl 0 rfl) ?_
  refine lv_iload_n hx hb dL_law_589 rfl (lv_at hl 3 rfl) ?_
  refine lv_iconst (v := nI 1) hx hb dL_law_590 rfl ?_
  refine mv_iadd hx hb dL_law_591 ?_
  refine mv_sld hx hb hX hbl hbA hS (by omega) hL dL_law_592 ?_
  refine lv_aload_n hx hb dL_law_593 rfl (lv_at hl 0 rfl) ?_
  refine lv_iload_n hx hb dL_law_594 rfl (lv_at hl 3 rfl) ?_
  refine lv_iconst (v := nI 2) hx hb dL_law_595 rfl ?_
  refine mv_iadd hx hb dL_law_596 ?_
  refine mv_sld hx hb hX hbl hbA hS (by omega) hL dL_law_597 ?_
  refine lv_aload_n hx hb dL_law_598 rfl (lv_at hl 0 rfl) ?_
  refine lv_iload_n hx hb dL_law_599 rfl (lv_at hl 3 rfl) ?_
  refine lv_iconst (v := nI 3) hx hb dL_law_600 rfl ?_
  refine mv_iadd hx hb dL_law_601 ?_
  refine mv_sld hx hb hX hbl hbA hS (by omega) hL dL_law_602 ?_
  refine va_calli (va_runV (As := [.int (xs (i + 1)), .int (xs (i + 2)), .int (xs (i + 3))]) (rest := []) ⟨hx, hb, hml, hown, hts⟩ (c_X7_order l D cI cL cZ adx AX tx td dr dy lb pn ps ks si kb (xs (i + 1)) (xs (i + 2)) (xs (i + 3)) rT.1) (cwV 3 hts gL_law_X7_order rfl rfl rfl (by decide +kernel) ⟨Nat.le_of_ble_eq_true rfl, Nat.le_of_ble_eq_true rfl⟩) ⟨sR_fb, va_recv hK hPx (ci := 7) (q0 := 0) rfl rfl, sR_at hPx hK (hDx _ _ _ _ _ _ _ _ _ _) hE⟩ rfl rfl hl.1 rfl (lv_room (Nat.le_of_ble_eq_true rfl)) dL_law_603 ⟨Nat.le_of_ble_eq_true rfl, Nat.le_of_ble_eq_true rfl⟩) hS (fun q _ h => hAX q h) (fun q h => hAX q h) (fun r1 u1 t1 H locs ht1 hvm1 hw1 hB1 hz1 hk1 hS => ?_)
  obtain ⟨hr1, hu1⟩ := hw1
  rw [ht1] at hB1
  have hPx : va_P D vwCl (xW cI cL cZ adx tx td dr dy u1 pn ps ks si kb) H := hB1
  have hPm := keepX hPm (hDm to st mt rd un kp rw_ se) (fun q h1 h2 => hXM q h2 h1) hk1
  refine lv_aload_n hx hb dL_law_606 rfl (lv_at hl 2 rfl) ?_
  refine lv_aload_n hx hb dL_law_607 rfl (lv_at hl 0 rfl) ?_
  refine lv_iload_n hx hb dL_law_608 rfl (lv_at hl 3 rfl) ?_
  refine lv_iconst (v := nI 1) hx hb dL_law_609 rfl ?_
  refine mv_iadd hx hb dL_law_610 ?_
  refine mv_sld hx hb hX hbl hbA hS (by omega) hL dL_law_611 ?_
  refine lv_aload_n hx hb dL_law_612 rfl (lv_at hl 0 rfl) ?_
  refine lv_iload_n hx hb dL_law_613 rfl (lv_at hl 3 rfl) ?_
  refine lv_iconst (v := nI 2) hx hb dL_law_614 rfl ?_
  refine mv_iadd hx hb dL_law_615 ?_
  refine mv_sld hx hb hX hbl hbA hS (by omega) hL dL_law_616 ?_
  refine lv_aload_n hx hb dL_law_617 rfl (lv_at hl 0 rfl) ?_
  refine lv_iload_n hx hb dL_law_618 rfl (lv_at hl 3 rfl) ?_
  refine lv_iconst (v := nI 3) hx hb dL_law_619 rfl ?_
  refine mv_iadd hx hb dL_law_620 ?_
  refine mv_sld hx hb hX hbl hbA hS (by omega) hL dL_law_621 ?_
  refine va_calli (va_runV (As := [.int (xs (i + 1)), .int (xs (i + 2)), .int (xs (i + 3))]) (rest := [.int r1]) ⟨hx, hb, hml, hown, hts⟩ (c_X8_order l D cI cL cZ adm AM to st mt rd un kp rw_ se (xs (i + 1)) (xs (i + 2)) (xs (i + 3)) hm.1 hm6 (rel_so h6 rD) rR) (cwV 3 hts gL_law_X8_order rfl rfl rfl (by decide +kernel) ⟨Nat.le_of_ble_eq_true rfl, Nat.le_of_ble_eq_true rfl⟩) ⟨sR_fb, va_recv hK hPm (ci := 8) (q0 := 0) rfl rfl, sR_at hPm hK (hDm _ _ _ _ _ _ _ _) hE⟩ rfl rfl hl.1 rfl (lv_room (Nat.le_of_ble_eq_true rfl)) dL_law_622 ⟨Nat.le_of_ble_eq_true rfl, Nat.le_of_ble_eq_true rfl⟩) hS (fun q _ h => hAM q h) (fun q h => hAM q h) (fun r2 v1 t2 H locs ht2 hvm2 hw2 hB2 hz2 hk2 hS => ?_)
  obtain ⟨hr2, hv1⟩ := hw2
  rw [ht2] at hB2
  have hPm : va_P D vwCl (mW cI cL cZ adm to v1.1 mt rd un kp v1.2 se) H := hB2
  have hPx := keepX hPx (hDx _ _ _ _ _ _ _ _ _ _) hXM hk2
  have hq := order_ok rT rD rR lb (xs (i + 1)) (xs (i + 2)) (xs (i + 3))
  rw [← hv1] at hq
  have he : r1 = r2 := by rw [hr1, hr2]; exact hq.1
  refine lv_icmp_eq (tgt := 859) hx hb dL_law_625 (by decide) (fun _ => ?_) (fun c_1 => absurd he c_1)
  exact kk _ _ hS ⟨tx, td, dr, dy, u1, pn, ps, ks, si, kb, to, v1.1, mt, rd, un, kp, v1.2, se, hPx, hPm, rX, rT, hq.2.1, rU, rK, rS, hq.2.2⟩
