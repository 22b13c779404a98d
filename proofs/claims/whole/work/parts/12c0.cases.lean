/-! the law: write, erase, fault, top -/
set_option maxHeartbeats 4000000 in
set_option maxRecDepth 100000 in
theorem lc_write_ {p : Program} {e : Env} {s : State} {m : MethodId} {below : List Frame} {meth : Method} {c : Code} {l : Launch} {b L : Nat} {xs : Nat → Int32} (hL : L ≤ 320) (C0 : lw_At p s m meth c b L xs) {D : va_G} {cI cL cZ : ClassId} {AX AM : Nat → Prop} {adx adm adK adV : Nat → Nat} {tO : Nat} (E0 : lwE s D cI cL cZ AX AM adx adm adK adV tO) {i : Nat} (hi : i + 5 ≤ L) {Q : State → Prop} {H : Heap} {locs : List Loc} {ls : Array Slot} (hS : va_S (fun q : Nat => s.heap.size ≤ q) s.heap H locs) (hJ : lwJ D cI cL cZ adx adm H) (hl : lv_has ls 4 [(0, .ref b), (1, .ref (adx 0)), (2, .ref (adm 0)), (3, .int (nI i))]) (kk : ∀ (H1 : Heap) (locs1 : List Loc), va_S (fun q : Nat => s.heap.size ≤ q) s.heap H1 locs1 → lwJ D cI cL cZ adx adm H1 → W p l e room_1 s m #[Value.ref b] below meth c H1 locs1 45 1797 Q (F0 m 859 ls [])) : W p l e room_1 s m #[Value.ref b] below meth c H locs 45 1797 Q (F0 m 156 ls []) := by
  obtain ⟨hx, hb, hr, hml, hown0, hts0, hX, hbl, hlocks, hgv⟩ := id C0
  obtain ⟨hK, hE, hSE, hSL, hOE, hDx, hDm, hAX, hAM, hXM⟩ := E0
  have hown : s.vm.findClass RL = some m.cls := hown0
  have hts : ∀ w ∈ wsL_law, w.before #[Value.ref b] s = true := fun w hw => hts0 w (wsL_law_in w hw)
  have hbA : ¬ (fun q : Nat => s.heap.size ≤ q) b := Nat.not_le.mpr hbl
  obtain ⟨tx, td, dr, dy, lb, pn, ps, ks, si, kb, to, st, mt, rd, un, kp, rw_, se, hPx, hPm, rX, rT, rD, rU, rK, rS, rR⟩ := hJ
  have h6 : pN td ≤ 6 := rT.1
  have hm := told_m rT
  have hm6 : mN to ≤ 6 := by rw [hm.2.1]; exact h6
  refine lv_aload_n hx hb dL_law_156 rfl (lv_at hl 1 rfl) ?_
  refine lv_aload_n hx hb dL_law_157 rfl (lv_at hl 0 rfl) ?_
  refine lv_iload_n hx hb dL_law_158 rfl (lv_at hl 3 rfl) ?_
  refine lv_iconst (v := nI 1) hx hb dL_law_159 rfl ?_
  refine mv_iadd hx hb dL_law_160 ?_
  refine mv_sld hx hb hX hbl hbA hS (by omega) hL dL_law_161 ?_
  refine va_calli (va_runV (As := [.int (xs (i + 1))]) (rest := []) ⟨hx, hb, hml, hown, hts⟩ (c_X7_write l D cI cL cZ adx AX tx td dr dy lb pn ps ks si kb (xs (i + 1)) rX.1) (cwV 1 hts gL_law_X7_write rfl rfl rfl (by decide +kernel) ⟨Nat.le_of_ble_eq_true rfl, Nat.le_of_ble_eq_true rfl⟩) ⟨sR_fb, va_recv hK hPx (ci := 7) (q0 := 0) rfl rfl, sR_at hPx hK (hDx _ _ _ _ _ _ _ _ _ _) hE⟩ rfl rfl hl.1 rfl (lv_room (Nat.le_of_ble_eq_true rfl)) dL_law_162 ⟨Nat.le_of_ble_eq_true rfl, Nat.le_of_ble_eq_true rfl⟩) hS (fun q _ h => hAX q h) (fun q h => hAX q h) (fun r1 u1 t1 H locs ht1 hvm1 hw1 hB1 hz1 hk1 hS => ?_)
  obtain ⟨hr1, hu1⟩ := hw1
  rw [ht1] at hB1
  have hPx : va_P D vwCl (xW cI cL cZ adx u1 td dr dy lb pn ps ks si kb) H := hB1
  have hPm := keepX hPm (hDm to st mt rd un kp rw_ se) (fun q h1 h2 => hXM q h2 h1) hk1
  refine lv_aload_n hx hb dL_law_165 rfl (lv_at hl 2 rfl) ?_
  refine lv_aload_n hx hb dL_law_166 rfl (lv_at hl 0 rfl) ?_
  refine lv_iload_n hx hb dL_law_167 rfl (lv_at hl 3 rfl) ?_
  refine lv_iconst (v := nI 1) hx hb dL_law_168 rfl ?_
  refine mv_iadd hx hb dL_law_169 ?_
  refine mv_sld hx hb hX hbl hbA hS (by omega) hL dL_law_170 ?_
  refine va_calli (va_runV (As := [.int (xs (i + 1))]) (rest := [.int r1]) ⟨hx, hb, hml, hown, hts⟩ (c_X8_write l D cI cL cZ adm AM to st mt rd un kp rw_ se (xs (i + 1)) (by rw [rX.2.1]; exact rX.1)) (cwV 1 hts gL_law_X8_write rfl rfl rfl (by decide +kernel) ⟨Nat.le_of_ble_eq_true rfl, Nat.le_of_ble_eq_true rfl⟩) ⟨sR_fb, va_recv hK hPm (ci := 8) (q0 := 0) rfl rfl, sR_at hPm hK (hDm _ _ _ _ _ _ _ _) hE⟩ rfl rfl hl.1 rfl (lv_room (Nat.le_of_ble_eq_true rfl)) dL_law_171 ⟨Nat.le_of_ble_eq_true rfl, Nat.le_of_ble_eq_true rfl⟩) hS (fun q _ h => hAM q h) (fun q h => hAM q h) (fun r2 v1 t2 H locs ht2 hvm2 hw2 hB2 hz2 hk2 hS => ?_)
  obtain ⟨hr2, hv1⟩ := hw2
  rw [ht2] at hB2
  have hPm : va_P D vwCl (mW cI cL cZ adm to st v1 rd un kp rw_ se) H := hB2
  have hPx := keepX hPx (hDx _ _ _ _ _ _ _ _ _ _) hXM hk2
  have hq := write_ok rX (xs (i + 1))
  rw [← hu1, ← hv1] at hq
  have he : r1 = r2 := by rw [hr1, hr2]; exact hq.1
  refine lv_icmp_eq (tgt := 859) hx hb dL_law_174 (by decide) (fun _ => ?_) (fun c_1 => absurd he c_1)
  exact kk _ _ hS ⟨u1, td, dr, dy, lb, pn, ps, ks, si, kb, to, st, v1, rd, un, kp, rw_, se, hPx, hPm, hq.2, rT, rD, rU, rK, rS, rR⟩
set_option maxHeartbeats 4000000 in
set_option maxRecDepth 100000 in
theorem lc_erase_ {p : Program} {e : Env} {s : State} {m : MethodId} {below : List Frame} {meth : Method} {c : Code} {l : Launch} {b L : Nat} {xs : Nat → Int32} (hL : L ≤ 320) (C0 : lw_At p s m meth c b L xs) {D : va_G} {cI cL cZ : ClassId} {AX AM : Nat → Prop} {adx adm adK adV : Nat → Nat} {tO : Nat} (E0 : lwE s D cI cL cZ AX AM adx adm adK adV tO) {i : Nat} (hi : i + 5 ≤ L) {Q : State → Prop} {H : Heap} {locs : List Loc} {ls : Array Slot} (hS : va_S (fun q : Nat => s.heap.size ≤ q) s.heap H locs) (hJ : lwJ D cI cL cZ adx adm H) (hl : lv_has ls 4 [(0, .ref b), (1, .ref (adx 0)), (2, .ref (adm 0)), (3, .int (nI i))]) (kk : ∀ (H1 : Heap) (locs1 : List Loc), va_S (fun q : Nat => s.heap.size ≤ q) s.heap H1 locs1 → lwJ D cI cL cZ adx adm H1 → W p l e room_1 s m #[Value.ref b] below meth c H1 locs1 45 1797 Q (F0 m 859 ls [])) : W p l e room_1 s m #[Value.ref b] below meth c H locs 45 1797 Q (F0 m 179 ls []) := by
  obtain ⟨hx, hb, hr, hml, hown0, hts0, hX, hbl, hlocks, hgv⟩ := id C0
  obtain ⟨hK, hE, hSE, hSL, hOE, hDx, hDm, hAX, hAM, hXM⟩ := E0
  have hown : s.vm.findClass RL = some m.cls := hown0
  have hts : ∀ w ∈ wsL_law, w.before #[Value.ref b] s = true := fun w hw => hts0 w (wsL_law_in w hw)
  have hbA : ¬ (fun q : Nat => s.heap.size ≤ q) b := Nat.not_le.mpr hbl
  obtain ⟨tx, td, dr, dy, lb, pn, ps, ks, si, kb, to, st, mt, rd, un, kp, rw_, se, hPx, hPm, rX, rT, rD, rU, rK, rS, rR⟩ := hJ
  have h6 : pN td ≤ 6 := rT.1
  have hm := told_m rT
  have hm6 : mN to ≤ 6 := by rw [hm.2.1]; exact h6
  refine lv_aload_n hx hb dL_law_179 rfl (lv_at hl 1 rfl) ?_
  refine va_calli (va_runV (As := []) (rest := []) ⟨hx, hb, hml, hown, hts⟩ (c_X7_erase l D cI cL cZ adx AX tx td dr dy lb pn ps ks si kb  ) (cwV 0 hts gL_law_X7_erase rfl rfl rfl (by decide +kernel) ⟨Nat.le_of_ble_eq_true rfl, Nat.le_of_ble_eq_true rfl⟩) ⟨sR_fb, va_recv hK hPx (ci := 7) (q0 := 0) rfl rfl, sR_at hPx hK (hDx _ _ _ _ _ _ _ _ _ _) hE⟩ rfl rfl hl.1 rfl (lv_room (Nat.le_of_ble_eq_true rfl)) dL_law_180 ⟨Nat.le_of_ble_eq_true rfl, Nat.le_of_ble_eq_true rfl⟩) hS (fun q _ h => hAX q h) (fun q h => hAX q h) (fun r1 u1 t1 H locs ht1 hvm1 hw1 hB1 hz1 hk1 hS => ?_)
  obtain ⟨hr1, hu1⟩ := hw1
  rw [ht1] at hB1
  have hPx : va_P D vwCl (xW cI cL cZ adx u1 td dr dy lb pn ps ks si kb) H := hB1
  have hPm := keepX hPm (hDm to st mt rd un kp rw_ se) (fun q h1 h2 => hXM q h2 h1) hk1
  refine lv_aload_n hx hb dL_law_183 rfl (lv_at hl 2 rfl) ?_
  refine va_calli (va_runV (As := []) (rest := [.int r1]) ⟨hx, hb, hml, hown, hts⟩ (c_X8_erase l D cI cL cZ adm AM to st mt rd un kp rw_ se  ) (cwV 0 hts gL_law_X8_erase rfl rfl rfl (by decide +kernel) ⟨Nat.le_of_ble_eq_true rfl, Nat.le_of_ble_eq_true rfl⟩) ⟨sR_fb, va_recv hK hPm (ci := 8) (q0 := 0) rfl rfl, sR_at hPm hK (hDm _ _ _ _ _ _ _ _) hE⟩ rfl rfl hl.1 rfl (lv_room (Nat.le_of_ble_eq_true rfl)) dL_law_184 ⟨Nat.le_of_ble_eq_true rfl, Nat.le_of_ble_eq_true rfl⟩) hS (fun q _ h => hAM q h) (fun q h => hAM q h) (fun r2 v1 t2 H locs ht2 hvm2 hw2 hB2 hz2 hk2 hS => ?_)
  obtain ⟨hr2, hv1⟩ := hw2
  rw [ht2] at hB2
  have hPm : va_P D vwCl (mW cI cL cZ adm to st v1 rd un kp rw_ se) H := hB2
  have hPx := keepX hPx (hDx _ _ _ _ _ _ _ _ _ _) hXM hk2
  have hq := erase_ok rX 
  rw [← hu1, ← hv1] at hq
  have he : r1 = r2 := by rw [hr1, hr2]; exact hq.1
  refine lv_icmp_eq (tgt := 859) hx hb dL_law_187 (by decide) (fun _ => ?_) (fun c_1 => absurd he c_1)
  exact kk _ _ hS ⟨u1, td, dr, dy, lb, pn, ps, ks, si, kb, to, st, v1, rd, un, kp, rw_, se, hPx, hPm, hq.2, rT, rD, rU, rK, rS, rR⟩
set_option maxHeartbeats 4000000 in
set_option maxRecDepth 100000 in
theorem lc_fault_ {p : Program} {e : Env} {s : State} {m : MethodId} {below : List Frame} {meth : Method} {c : Code} {l : Launch} {b L : Nat} {xs : Nat → Int32} (hL : L ≤ 320) (C0 : lw_At p s m meth c b L xs) {D : va_G} {cI cL cZ : ClassId} {AX AM : Nat → Prop} {adx adm adK adV : Nat → Nat} {tO : Nat} (E0 : lwE s D cI cL cZ AX AM adx adm adK adV tO) {i : Nat} (hi : i + 5 ≤ L) {Q : State → Prop} {H : Heap} {locs : List Loc} {ls : Array Slot} (hS : va_S (fun q : Nat => s.heap.size ≤ q) s.heap H locs) (hJ : lwJ D cI cL cZ adx adm H) (hl : lv_has ls 4 [(0, .ref b), (1, .ref (adx 0)), (2, .ref (adm 0)), (3, .int (nI i))]) (kk : ∀ (H1 : Heap) (locs1 : List Loc), va_S (fun q : Nat => s.heap.size ≤ q) s.heap H1 locs1 → lwJ D cI cL cZ adx adm H1 → W p l e room_1 s m #[Value.ref b] below meth c H1 locs1 45 1797 Q (F0 m 859 ls [])) : W p l e room_1 s m #[Value.ref b] below meth c H locs 45 1797 Q (F0 m 192 ls []) := by
  obtain ⟨hx, hb, hr, hml, hown0, hts0, hX, hbl, hlocks, hgv⟩ := id C0
  obtain ⟨hK, hE, hSE, hSL, hOE, hDx, hDm, hAX, hAM, hXM⟩ := E0
  have hown : s.vm.findClass RL = some m.cls := hown0
  have hts : ∀ w ∈ wsL_law, w.before #[Value.ref b] s = true := fun w hw => hts0 w (wsL_law_in w hw)
  have hbA : ¬ (fun q : Nat => s.heap.size ≤ q) b := Nat.not_le.mpr hbl
  obtain ⟨tx, td, dr, dy, lb, pn, ps, ks, si, kb, to, st, mt, rd, un, kp, rw_, se, hPx, hPm, rX, rT, rD, rU, rK, rS, rR⟩ := hJ
  have h6 : pN td ≤ 6 := rT.1
  have hm := told_m rT
  have hm6 : mN to ≤ 6 := by rw [hm.2.1]; exact h6
  refine lv_aload_n hx hb dL_law_192 rfl (lv_at hl 1 rfl) ?_
  refine va_calli (va_runV (As := []) (rest := []) ⟨hx, hb, hml, hown, hts⟩ (c_X7_fault l D cI cL cZ adx AX adK adV tx td dr dy lb pn ps ks si kb  rX.1 rT.1) (cwV 0 hts gL_law_X7_fault rfl rfl rfl (by decide +kernel) ⟨Nat.le_of_ble_eq_true rfl, Nat.le_of_ble_eq_true rfl⟩) ⟨xS_fb, va_recv hK hPx (ci := 7) (q0 := 0) rfl rfl, xS_at hPx hK (hDx _ _ _ _ _ _ _ _ _ _) hE hSE hSL (onlyX hS)⟩ rfl rfl hl.1 rfl (lv_room (Nat.le_of_ble_eq_true rfl)) dL_law_193 ⟨Nat.le_of_ble_eq_true rfl, Nat.le_of_ble_eq_true rfl⟩) hS (fun q _ h => hAX q h) (fun q h => hAX q h) (fun r1 u1 t1 H locs ht1 hvm1 hw1 hB1 hz1 hk1 hS => ?_)
  obtain ⟨hr1, hu1⟩ := hw1
  rw [ht1] at hB1
  have hPx : va_P D vwCl (xW cI cL cZ adx u1.1 td u1.2 dy lb pn ps ks si kb) H := hB1
  have hPm := keepX hPm (hDm to st mt rd un kp rw_ se) (fun q h1 h2 => hXM q h2 h1) hk1
  refine lv_aload_n hx hb dL_law_196 rfl (lv_at hl 2 rfl) ?_
  refine va_calli (va_runV (As := []) (rest := [.int r1]) ⟨hx, hb, hml, hown, hts⟩ (c_X8_fault l D cI cL cZ adm AM to st mt rd un kp rw_ se  (by rw [rX.2.1]; exact rX.1) rX.2.2.1 hm.1 hm6) (cwV 0 hts gL_law_X8_fault rfl rfl rfl (by decide +kernel) ⟨Nat.le_of_ble_eq_true rfl, Nat.le_of_ble_eq_true rfl⟩) ⟨sR_fb, va_recv hK hPm (ci := 8) (q0 := 0) rfl rfl, sR_at hPm hK (hDm _ _ _ _ _ _ _ _) hE⟩ rfl rfl hl.1 rfl (lv_room (Nat.le_of_ble_eq_true rfl)) dL_law_197 ⟨Nat.le_of_ble_eq_true rfl, Nat.le_of_ble_eq_true rfl⟩) hS (fun q _ h => hAM q h) (fun q h => hAM q h) (fun r2 v1 t2 H locs ht2 hvm2 hw2 hB2 hz2 hk2 hS => ?_)
  obtain ⟨hr2, hv1⟩ := hw2
  rw [ht2] at hB2
  have hPm : va_P D vwCl (mW cI cL cZ adm to st v1.1 v1.2 un kp rw_ se) H := hB2
  have hPx := keepX hPx (hDx _ _ _ _ _ _ _ _ _ _) hXM hk2
  have hq := fault_ok (dr := dr) (rd := rd) rX rT 
  rw [← hu1, ← hv1] at hq
  have he : r1 = r2 := by rw [hr1, hr2]; exact hq.1
  refine lv_icmp_eq (tgt := 859) hx hb dL_law_200 (by decide) (fun _ => ?_) (fun c_1 => absurd he c_1)
  exact kk _ _ hS ⟨u1.1, td, u1.2, dy, lb, pn, ps, ks, si, kb, to, st, v1.1, v1.2, un, kp, rw_, se, hPx, hPm, hq.2, rT, rD, rU, rK, rS, rR⟩
set_option maxHeartbeats 4000000 in
set_option maxRecDepth 100000 in
theorem lc_top_ {p : Program} {e : Env} {s : State} {m : MethodId} {below : List Frame} {meth : Method} {c : Code} {l : Launch} {b L : Nat} {xs : Nat → Int32} (hL : L ≤ 320) (C0 : lw_At p s m meth c b L xs) {D : va_G} {cI cL cZ : ClassId} {AX AM : Nat → Prop} {adx adm adK adV : Nat → Nat} {tO : Nat} (E0 : lwE s D cI cL cZ AX AM adx adm adK adV tO) {i : Nat} (hi : i + 5 ≤ L) {Q : State → Prop} {H : Heap} {locs : List Loc} {ls : Array Slot} (hS : va_S (fun q : Nat => s.heap.size ≤ q) s.heap H locs) (hJ : lwJ D cI cL cZ adx adm H) (hl : lv_has ls 4 [(0, .ref b), (1, .ref (adx 0)), (2, .ref (adm 0)), (3, .int (nI i))]) (kk : ∀ (H1 : Heap) (locs1 : List Loc), va_S (fun q : Nat => s.heap.size ≤ q) s.heap H1 locs1 → lwJ D cI cL cZ adx adm H1 → W p l e room_1 s m #[Value.ref b] below meth c H1 locs1 45 1797 Q (F0 m 859 ls [])) : W p l e room_1 s m #[Value.ref b] below meth c H locs 45 1797 Q (F0 m 205 ls []) := by
  obtain ⟨hx, hb, hr, hml, hown0, hts0, hX, hbl, hlocks, hgv⟩ := id C0
  obtain ⟨hK, hE, hSE, hSL, hOE, hDx, hDm, hAX, hAM, hXM⟩ := E0
  have hown : s.vm.findClass RL = some m.cls := hown0
  have hts : ∀ w ∈ wsL_law, w.before #[Value.ref b] s = true := fun w hw => hts0 w (wsL_law_in w hw)
  have hbA : ¬ (fun q : Nat => s.heap.size ≤ q) b := Nat.not_le.mpr hbl
  obtain ⟨tx, td, dr, dy, lb, pn, ps, ks, si, kb, to, st, mt, rd, un, kp, rw_, se, hPx, hPm, rX, rT, rD, rU, rK, rS, rR⟩ := hJ
  have h6 : pN td ≤ 6 := rT.1
  have hm := told_m rT
  have hm6 : mN to ≤ 6 := by rw [hm.2.1]; exact h6
  refine lv_aload_n hx hb dL_law_205 rfl (lv_at hl 1 rfl) ?_
  refine va_calli (va_runV (As := []) (rest := []) ⟨hx, hb, hml, hown, hts⟩ (c_X7_top l D cI cL cZ adx AX adK adV tx td dr dy lb pn ps ks si kb  rX.1 rT.1) (cwV 0 hts gL_law_X7_top rfl rfl rfl (by decide +kernel) ⟨Nat.le_of_ble_eq_true rfl, Nat.le_of_ble_eq_true rfl⟩) ⟨xS_fb, va_recv hK hPx (ci := 7) (q0 := 0) rfl rfl, xS_at hPx hK (hDx _ _ _ _ _ _ _ _ _ _) hE hSE hSL (onlyX hS)⟩ rfl rfl hl.1 rfl (lv_room (Nat.le_of_ble_eq_true rfl)) dL_law_206 ⟨Nat.le_of_ble_eq_true rfl, Nat.le_of_ble_eq_true rfl⟩) hS (fun q _ h => hAX q h) (fun q h => hAX q h) (fun r1 u1 t1 H locs ht1 hvm1 hw1 hB1 hz1 hk1 hS => ?_)
  obtain ⟨hr1, hu1⟩ := hw1
  rw [ht1] at hB1
  have hPx : va_P D vwCl (xW cI cL cZ adx u1.1 u1.2.1 u1.2.2.1 u1.2.2.2.1 lb u1.2.2.2.2.1 ps ks u1.2.2.2.2.2.1 u1.2.2.2.2.2.2) H := hB1
  have hPm := keepX hPm (hDm to st mt rd un kp rw_ se) (fun q h1 h2 => hXM q h2 h1) hk1
  refine lv_aload_n hx hb dL_law_209 rfl (lv_at hl 2 rfl) ?_
  refine va_calli (va_runV (As := []) (rest := [.int r1]) ⟨hx, hb, hml, hown, hts⟩ (c_X8_top l D cI cL cZ adm AM to st mt rd un kp rw_ se  (by rw [rX.2.1]; exact rX.1) rX.2.2.1 hm.1 hm6) (cwV 0 hts gL_law_X8_top rfl rfl rfl (by decide +kernel) ⟨Nat.le_of_ble_eq_true rfl, Nat.le_of_ble_eq_true rfl⟩) ⟨sR_fb, va_recv hK hPm (ci := 8) (q0 := 0) rfl rfl, sR_at hPm hK (hDm _ _ _ _ _ _ _ _) hE⟩ rfl rfl hl.1 rfl (lv_room (Nat.le_of_ble_eq_true rfl)) dL_law_210 ⟨Nat.le_of_ble_eq_true rfl, Nat.le_of_ble_eq_true rfl⟩) hS (fun q _ h => hAM q h) (fun q h => hAM q h) (fun r2 v1 t2 H locs ht2 hvm2 hw2 hB2 hz2 hk2 hS => ?_)
  obtain ⟨hr2, hv1⟩ := hw2
  rw [ht2] at hB2
  have hPm : va_P D vwCl (mW cI cL cZ adm v1.1 v1.2.1 v1.2.2.1 v1.2.2.2.1 v1.2.2.2.2.1 v1.2.2.2.2.2.1 rw_ v1.2.2.2.2.2.2) H := hB2
  have hPx := keepX hPx (hDx _ _ _ _ _ _ _ _ _ _) hXM hk2
  have hq := top_ok (dr := dr) (rd := rd) ⟨rX, rT, rD, rU, rK, rS, rR⟩ 
  rw [← hu1, ← hv1] at hq
  have he : r1 = r2 := by rw [hr1, hr2]; exact hq.1
  refine lv_icmp_eq (tgt := 859) hx hb dL_law_213 (by decide) (fun _ => ?_) (fun c_1 => absurd he c_1)
  exact kk _ _ hS ⟨u1.1, u1.2.1, u1.2.2.1, u1.2.2.2.1, lb, u1.2.2.2.2.1, ps, ks, u1.2.2.2.2.2.1, u1.2.2.2.2.2.2, v1.1, v1.2.1, v1.2.2.1, v1.2.2.2.1, v1.2.2.2.2.1, v1.2.2.2.2.2.1, rw_, v1.2.2.2.2.2.2, hPx, hPm, hq.2⟩
