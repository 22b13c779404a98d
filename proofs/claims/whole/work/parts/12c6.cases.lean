/-! the law: seen, forget, clocks -/
set_option maxHeartbeats 4000000 in
set_option maxRecDepth 100000 in
theorem lc_seen_ {p : Program} {e : Env} {s : State} {m : MethodId} {below : List Frame} {meth : Method} {c : Code} {l : Launch} {b L : Nat} {xs : Nat → Int32} (hL : L ≤ 320) (C0 : lw_At p s m meth c b L xs) {D : va_G} {cI cL cZ : ClassId} {AX AM : Nat → Prop} {adx adm adK adV : Nat → Nat} {tO : Nat} (E0 : lwE s D cI cL cZ AX AM adx adm adK adV tO) {i : Nat} (hi : i + 5 ≤ L) {Q : State → Prop} {H : Heap} {locs : List Loc} {ls : Array Slot} (hS : va_S (fun q : Nat => s.heap.size ≤ q) s.heap H locs) (hJ : lwJ D cI cL cZ adx adm H) (hl : lv_has ls 4 [(0, .ref b), (1, .ref (adx 0)), (2, .ref (adm 0)), (3, .int (nI i))]) (kk : ∀ (H1 : Heap) (locs1 : List Loc), va_S (fun q : Nat => s.heap.size ≤ q) s.heap H1 locs1 → lwJ D cI cL cZ adx adm H1 → W p l e room_1 s m #[Value.ref b] below meth c H1 locs1 45 1797 Q (F0 m 859 ls [])) : W p l e room_1 s m #[Value.ref b] below meth c H locs 45 1797 Q (F0 m 724 ls []) := by
  obtain ⟨hx, hb, hr, hml, hown0, hts0, hX, hbl, hlocks, hgv⟩ := id C0
  obtain ⟨hK, hE, hSE, hSL, hOE, hDx, hDm, hAX, hAM, hXM⟩ := E0
  have hown : s.vm.findClass RL = some m.cls := hown0
  have hts : ∀ w ∈ wsL_law, w.before #[Value.ref b] s = true := fun w hw => hts0 w (wsL_law_in w hw)
  have hbA : ¬ (fun q : Nat => s.heap.size ≤ q) b := Nat.not_le.mpr hbl
  obtain ⟨tx, td, dr, dy, lb, pn, ps, ks, si, kb, to, st, mt, rd, un, kp, rw_, se, hPx, hPm, rX, rT, rD, rU, rK, rS, rR⟩ := hJ
  have h6 : pN td ≤ 6 := rT.1
  have hm := told_m rT
  have hm6 : mN to ≤ 6 := by rw [hm.2.1]; exact h6
  refine lv_aload_n hx hb dL_law_724 rfl (lv_at hl 1 rfl) ?_
  refine lv_aload_n hx hb dL_law_725 rfl (lv_at hl 0 rfl) ?_
  refine lv_iload_n hx hb dL_law_726 rfl (lv_at hl 3 rfl) ?_
  refine lv_iconst (v := nI 1) hx hb dL_law_727 rfl ?_
  refine mv_iadd hx hb dL_law_728 ?_
  refine mv_sld hx hb hX hbl hbA hS (by omega) hL dL_law_729 ?_
  refine lv_aload_n hx hb dL_law_730 rfl (lv_at hl 0 rfl) ?_
  refine lv_iload_n hx hb dL_law_731 rfl (lv_at hl 3 rfl) ?_
  refine lv_iconst (v := nI 2) hx hb dL_law_732 rfl ?_
  refine mv_iadd hx hb dL_law_733 ?_
  refine mv_sld hx hb hX hbl hbA hS (by omega) hL dL_law_734 ?_
  refine va_calli (va_runV (As := [.int (xs (i + 1)), .int (xs (i + 2))]) (rest := []) ⟨hx, hb, hml, hown, hts⟩ (c_X7_seen l D cI cL cZ adx AX tx td dr dy lb pn ps ks si kb (xs (i + 1)) (xs (i + 2)) rS.1) (cwV 2 hts gL_law_X7_seen rfl rfl rfl (by decide +kernel) ⟨Nat.le_of_ble_eq_true rfl, Nat.le_of_ble_eq_true rfl⟩) ⟨sR_fb, va_recv hK hPx (ci := 7) (q0 := 0) rfl rfl, sR_at hPx hK (hDx _ _ _ _ _ _ _ _ _ _) hE⟩ rfl rfl hl.1 rfl (lv_room (Nat.le_of_ble_eq_true rfl)) dL_law_735 ⟨Nat.le_of_ble_eq_true rfl, Nat.le_of_ble_eq_true rfl⟩) hS (fun q _ h => hAX q h) (fun q h => hAX q h) (fun r1 u1 t1 H locs ht1 hvm1 hw1 hB1 hz1 hk1 hS => ?_)
  obtain ⟨hr1, hu1⟩ := hw1
  rw [ht1] at hB1
  have hPx : va_P D vwCl (xW cI cL cZ adx tx td dr dy lb pn ps ks u1 kb) H := hB1
  have hPm := keepX hPm (hDm to st mt rd un kp rw_ se) (fun q h1 h2 => hXM q h2 h1) hk1
  refine lv_aload_n hx hb dL_law_738 rfl (lv_at hl 2 rfl) ?_
  refine lv_aload_n hx hb dL_law_739 rfl (lv_at hl 0 rfl) ?_
  refine lv_iload_n hx hb dL_law_740 rfl (lv_at hl 3 rfl) ?_
  refine lv_iconst (v := nI 1) hx hb dL_law_741 rfl ?_
  refine mv_iadd hx hb dL_law_742 ?_
  refine mv_sld hx hb hX hbl hbA hS (by omega) hL dL_law_743 ?_
  refine lv_aload_n hx hb dL_law_744 rfl (lv_at hl 0 rfl) ?_
  refine lv_iload_n hx hb dL_law_745 rfl (lv_at hl 3 rfl) ?_
  refine lv_iconst (v := nI 2) hx hb dL_law_746 rfl ?_
  refine mv_iadd hx hb dL_law_747 ?_
  refine mv_sld hx hb hX hbl hbA hS (by omega) hL dL_law_748 ?_
  refine va_calli (va_runV (As := [.int (xs (i + 1)), .int (xs (i + 2))]) (rest := [.int r1]) ⟨hx, hb, hml, hown, hts⟩ (c_X8_seen l D cI cL cZ adm AM to st mt rd un kp rw_ se (xs (i + 1)) (xs (i + 2)) hm.1 hm6 (by rw [rS.2.1]; exact rS.1)) (cwV 2 hts gL_law_X8_seen rfl rfl rfl (by decide +kernel) ⟨Nat.le_of_ble_eq_true rfl, Nat.le_of_ble_eq_true rfl⟩) ⟨sR_fb, va_recv hK hPm (ci := 8) (q0 := 0) rfl rfl, sR_at hPm hK (hDm _ _ _ _ _ _ _ _) hE⟩ rfl rfl hl.1 rfl (lv_room (Nat.le_of_ble_eq_true rfl)) dL_law_749 ⟨Nat.le_of_ble_eq_true rfl, Nat.le_of_ble_eq_true rfl⟩) hS (fun q _ h => hAM q h) (fun q h => hAM q h) (fun r2 v1 t2 H locs ht2 hvm2 hw2 hB2 hz2 hk2 hS => ?_)
  obtain ⟨hr2, hv1⟩ := hw2
  rw [ht2] at hB2
  have hPm : va_P D vwCl (mW cI cL cZ adm to st mt rd un kp rw_ v1) H := hB2
  have hPx := keepX hPx (hDx _ _ _ _ _ _ _ _ _ _) hXM hk2
  have hq := seen_ok rT rS (xs (i + 1)) (xs (i + 2))
  rw [← hu1, ← hv1] at hq
  have he : r1 = r2 := by rw [hr1, hr2]; exact hq.1
  refine lv_icmp_eq (tgt := 859) hx hb dL_law_752 (by decide) (fun _ => ?_) (fun c_1 => absurd he c_1)
  exact kk _ _ hS ⟨tx, td, dr, dy, lb, pn, ps, ks, u1, kb, to, st, mt, rd, un, kp, rw_, v1, hPx, hPm, rX, rT, rD, rU, rK, hq.2, rR⟩
set_option maxHeartbeats 4000000 in
set_option maxRecDepth 100000 in
theorem lc_forget_ {p : Program} {e : Env} {s : State} {m : MethodId} {below : List Frame} {meth : Method} {c : Code} {l : Launch} {b L : Nat} {xs : Nat → Int32} (hL : L ≤ 320) (C0 : lw_At p s m meth c b L xs) {D : va_G} {cI cL cZ : ClassId} {AX AM : Nat → Prop} {adx adm adK adV : Nat → Nat} {tO : Nat} (E0 : lwE s D cI cL cZ AX AM adx adm adK adV tO) {i : Nat} (hi : i + 5 ≤ L) {Q : State → Prop} {H : Heap} {locs : List Loc} {ls : Array Slot} (hS : va_S (fun q : Nat => s.heap.size ≤ q) s.heap H locs) (hJ : lwJ D cI cL cZ adx adm H) (hl : lv_has ls 4 [(0, .ref b), (1, .ref (adx 0)), (2, .ref (adm 0)), (3, .int (nI i))]) (kk : ∀ (H1 : Heap) (locs1 : List Loc), va_S (fun q : Nat => s.heap.size ≤ q) s.heap H1 locs1 → lwJ D cI cL cZ adx adm H1 → W p l e room_1 s m #[Value.ref b] below meth c H1 locs1 45 1797 Q (F0 m 859 ls [])) : W p l e room_1 s m #[Value.ref b] below meth c H locs 45 1797 Q (F0 m 757 ls []) := by
  obtain ⟨hx, hb, hr, hml, hown0, hts0, hX, hbl, hlocks, hgv⟩ := id C0
  obtain ⟨hK, hE, hSE, hSL, hOE, hDx, hDm, hAX, hAM, hXM⟩ := E0
  have hown : s.vm.findClass RL = some m.cls := hown0
  have hts : ∀ w ∈ wsL_law, w.before #[Value.ref b] s = true := fun w hw => hts0 w (wsL_law_in w hw)
  have hbA : ¬ (fun q : Nat => s.heap.size ≤ q) b := Nat.not_le.mpr hbl
  obtain ⟨tx, td, dr, dy, lb, pn, ps, ks, si, kb, to, st, mt, rd, un, kp, rw_, se, hPx, hPm, rX, rT, rD, rU, rK, rS, rR⟩ := hJ
  have h6 : pN td ≤ 6 := rT.1
  have hm := told_m rT
  have hm6 : mN to ≤ 6 := by rw [hm.2.1]; exact h6
  refine lv_aload_n hx hb dL_law_757 rfl (lv_at hl 1 rfl) ?_
  refine va_calli (va_runV (As := []) (rest := []) ⟨hx, hb, hml, hown, hts⟩ (c_X7_forget l D cI cL cZ adx AX tx td dr dy lb pn ps ks si kb  ) (cwV 0 hts gL_law_X7_forget rfl rfl rfl (by decide +kernel) ⟨Nat.le_of_ble_eq_true rfl, Nat.le_of_ble_eq_true rfl⟩) ⟨sR_fb, va_recv hK hPx (ci := 7) (q0 := 0) rfl rfl, sR_at hPx hK (hDx _ _ _ _ _ _ _ _ _ _) hE⟩ rfl rfl hl.1 rfl (lv_room (Nat.le_of_ble_eq_true rfl)) dL_law_758 ⟨Nat.le_of_ble_eq_true rfl, Nat.le_of_ble_eq_true rfl⟩) hS (fun q _ h => hAX q h) (fun q h => hAX q h) (fun r1 u1 t1 H locs ht1 hvm1 hw1 hB1 hz1 hk1 hS => ?_)
  obtain ⟨hr1, hu1⟩ := hw1
  rw [ht1] at hB1
  have hPx : va_P D vwCl (xW cI cL cZ adx tx td dr dy lb pn ps ks u1 kb) H := hB1
  have hPm := keepX hPm (hDm to st mt rd un kp rw_ se) (fun q h1 h2 => hXM q h2 h1) hk1
  refine lv_aload_n hx hb dL_law_761 rfl (lv_at hl 2 rfl) ?_
  refine va_calli (va_runV (As := []) (rest := [.int r1]) ⟨hx, hb, hml, hown, hts⟩ (c_X8_forget l D cI cL cZ adm AM to st mt rd un kp rw_ se  ) (cwV 0 hts gL_law_X8_forget rfl rfl rfl (by decide +kernel) ⟨Nat.le_of_ble_eq_true rfl, Nat.le_of_ble_eq_true rfl⟩) ⟨sR_fb, va_recv hK hPm (ci := 8) (q0 := 0) rfl rfl, sR_at hPm hK (hDm _ _ _ _ _ _ _ _) hE⟩ rfl rfl hl.1 rfl (lv_room (Nat.le_of_ble_eq_true rfl)) dL_law_762 ⟨Nat.le_of_ble_eq_true rfl, Nat.le_of_ble_eq_true rfl⟩) hS (fun q _ h => hAM q h) (fun q h => hAM q h) (fun r2 v1 t2 H locs ht2 hvm2 hw2 hB2 hz2 hk2 hS => ?_)
  obtain ⟨hr2, hv1⟩ := hw2
  rw [ht2] at hB2
  have hPm : va_P D vwCl (mW cI cL cZ adm to st mt rd un kp rw_ v1) H := hB2
  have hPx := keepX hPx (hDx _ _ _ _ _ _ _ _ _ _) hXM hk2
  have hq := forget_ok rS 
  rw [← hu1, ← hv1] at hq
  have he : r1 = r2 := by rw [hr1, hr2]; exact hq.1
  refine lv_icmp_eq (tgt := 859) hx hb dL_law_765 (by decide) (fun _ => ?_) (fun c_1 => absurd he c_1)
  exact kk _ _ hS ⟨tx, td, dr, dy, lb, pn, ps, ks, u1, kb, to, st, mt, rd, un, kp, rw_, v1, hPx, hPm, rX, rT, rD, rU, rK, hq.2, rR⟩
set_option maxHeartbeats 4000000 in
set_option maxRecDepth 100000 in
theorem lc_clocks_ {p : Program} {e : Env} {s : State} {m : MethodId} {below : List Frame} {meth : Method} {c : Code} {l : Launch} {b L : Nat} {xs : Nat → Int32} (hL : L ≤ 320) (C0 : lw_At p s m meth c b L xs) {D : va_G} {cI cL cZ : ClassId} {AX AM : Nat → Prop} {adx adm adK adV : Nat → Nat} {tO : Nat} (E0 : lwE s D cI cL cZ AX AM adx adm adK adV tO) {i : Nat} (hi : i + 5 ≤ L) {Q : State → Prop} {H : Heap} {locs : List Loc} {ls : Array Slot} (hS : va_S (fun q : Nat => s.heap.size ≤ q) s.heap H locs) (hJ : lwJ D cI cL cZ adx adm H) (hl : lv_has ls 4 [(0, .ref b), (1, .ref (adx 0)), (2, .ref (adm 0)), (3, .int (nI i))]) (kk : ∀ (H1 : Heap) (locs1 : List Loc), va_S (fun q : Nat => s.heap.size ≤ q) s.heap H1 locs1 → lwJ D cI cL cZ adx adm H1 → W p l e room_1 s m #[Value.ref b] below meth c H1 locs1 45 1797 Q (F0 m 859 ls [])) : W p l e room_1 s m #[Value.ref b] below meth c H locs 45 1797 Q (F0 m 770 ls []) := by
  obtain ⟨hx, hb, hr, hml, hown0, hts0, hX, hbl, hlocks, hgv⟩ := id C0
  obtain ⟨hK, hE, hSE, hSL, hOE, hDx, hDm, hAX, hAM, hXM⟩ := E0
  have hown : s.vm.findClass RL = some m.cls := hown0
  have hts : ∀ w ∈ wsL_law, w.before #[Value.ref b] s = true := fun w hw => hts0 w (wsL_law_in w hw)
  have hbA : ¬ (fun q : Nat => s.heap.size ≤ q) b := Nat.not_le.mpr hbl
  obtain ⟨tx, td, dr, dy, lb, pn, ps, ks, si, kb, to, st, mt, rd, un, kp, rw_, se, hPx, hPm, rX, rT, rD, rU, rK, rS, rR⟩ := hJ
  have h6 : pN td ≤ 6 := rT.1
  have hm := told_m rT
  have hm6 : mN to ≤ 6 := by rw [hm.2.1]; exact h6
  refine lv_aload_n hx hb dL_law_770 rfl (lv_at hl 1 rfl) ?_
  refine vp_callSi (va_Run.run (va_runV (As := []) (rest := []) ⟨hx, hb, hml, hown, hts⟩ (c_X7_clocks l D cI cL cZ adx AX tx td dr dy lb pn ps ks si kb  rT.1 rS.1) (cwV 0 hts gL_law_X7_clocks rfl rfl rfl (by decide +kernel) ⟨Nat.le_of_ble_eq_true rfl, Nat.le_of_ble_eq_true rfl⟩) ⟨sR_fb, va_recv hK hPx (ci := 7) (q0 := 0) rfl rfl, sR_at hPx hK (hDx _ _ _ _ _ _ _ _ _ _) hE⟩ rfl rfl hl.1 rfl (lv_room (Nat.le_of_ble_eq_true rfl)) dL_law_771 ⟨Nat.le_of_ble_eq_true rfl, Nat.le_of_ble_eq_true rfl⟩)) (fun r1 hr1 => ?_)
  refine lv_aload_n hx hb dL_law_774 rfl (lv_at hl 2 rfl) ?_
  refine va_calli (va_runV (As := []) (rest := [.int r1]) ⟨hx, hb, hml, hown, hts⟩ (c_X8_clocks l D cI cL cZ adm AM to st mt rd un kp rw_ se  (rel_so h6 rD) (by rw [rS.2.1]; exact rS.1) (rel_sp h6 rS)) (cwV 0 hts gL_law_X8_clocks rfl rfl rfl (by decide +kernel) ⟨Nat.le_of_ble_eq_true rfl, Nat.le_of_ble_eq_true rfl⟩) ⟨sR_fb, va_recv hK hPm (ci := 8) (q0 := 0) rfl rfl, sR_at hPm hK (hDm _ _ _ _ _ _ _ _) hE⟩ rfl rfl hl.1 rfl (lv_room (Nat.le_of_ble_eq_true rfl)) dL_law_775 ⟨Nat.le_of_ble_eq_true rfl, Nat.le_of_ble_eq_true rfl⟩) hS (fun q _ h => hAM q h) (fun q h => hAM q h) (fun r2 v1 t2 H locs ht2 hvm2 hw2 hB2 hz2 hk2 hS => ?_)
  obtain ⟨hr2, hv1⟩ := hw2
  rw [ht2] at hB2
  have hPm : va_P D vwCl (mW cI cL cZ adm to v1 mt rd un kp rw_ se) H := hB2
  have hPx := keepX hPx (hDx _ _ _ _ _ _ _ _ _ _) hXM hk2
  have hq := clocks_ok rT rD rS 
  rw [← hv1] at hq
  have he : r1 = r2 := by rw [hr1, hr2]; exact hq.1
  refine lv_icmp_eq (tgt := 859) hx hb dL_law_778 (by decide) (fun _ => ?_) (fun c_1 => absurd he c_1)
  exact kk _ _ hS ⟨tx, td, dr, dy, lb, pn, ps, ks, si, kb, to, v1, mt, rd, un, kp, rw_, se, hPx, hPm, rX, rT, hq.2, rU, rK, rS, rR⟩
