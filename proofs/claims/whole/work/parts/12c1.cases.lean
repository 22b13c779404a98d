/-! the law: person, second, as -/
set_option maxHeartbeats 4000000 in
set_option maxRecDepth 100000 in
theorem lc_person_ {p : Program} {e : Env} {s : State} {m : MethodId} {below : List Frame} {meth : Method} {c : Code} {l : Launch} {b L : Nat} {xs : Nat → Int32} (hL : L ≤ 320) (C0 : lw_At p s m meth c b L xs) {D : va_G} {cI cL cZ : ClassId} {AX AM : Nat → Prop} {adx adm adK adV : Nat → Nat} {tO : Nat} (E0 : lwE s D cI cL cZ AX AM adx adm adK adV tO) {i : Nat} (hi : i + 5 ≤ L) {Q : State → Prop} {H : Heap} {locs : List Loc} {ls : Array Slot} (hS : va_S (fun q : Nat => s.heap.size ≤ q) s.heap H locs) (hJ : lwJ D cI cL cZ adx adm H) (hl : lv_has ls 4 [(0, .ref b), (1, .ref (adx 0)), (2, .ref (adm 0)), (3, .int (nI i))]) (kk : ∀ (H1 : Heap) (locs1 : List Loc), va_S (fun q : Nat => s.heap.size ≤ q) s.heap H1 locs1 → lwJ D cI cL cZ adx adm H1 → W p l e room_1 s m #[Value.ref b] below meth c H1 locs1 45 1797 Q (F0 m 859 ls [])) : W p l e room_1 s m #[Value.ref b] below meth c H locs 45 1797 Q (F0 m 218 ls []) := by
  obtain ⟨hx, hb, hr, hml, hown0, hts0, hX, hbl, hlocks, hgv⟩ := id C0
  obtain ⟨hK, hE, hSE, hSL, hOE, hDx, hDm, hAX, hAM, hXM⟩ := E0
  have hown : s.vm.findClass RL = some m.cls := hown0
  have hts : ∀ w ∈ wsL_law, w.before #[Value.ref b] s = true := fun w hw => hts0 w (wsL_law_in w hw)
  have hbA : ¬ (fun q : Nat => s.heap.size ≤ q) b := Nat.not_le.mpr hbl
  obtain ⟨tx, td, dr, dy, lb, pn, ps, ks, si, kb, to, st, mt, rd, un, kp, rw_, se, hPx, hPm, rX, rT, rD, rU, rK, rS, rR⟩ := hJ
  have h6 : pN td ≤ 6 := rT.1
  have hm := told_m rT
  have hm6 : mN to ≤ 6 := by rw [hm.2.1]; exact h6
  refine lv_aload_n hx hb dL_law_218 rfl (lv_at hl 1 rfl) ?_
  refine lv_aload_n hx hb dL_law_219 rfl (lv_at hl 0 rfl) ?_
  refine lv_iload_n hx hb dL_law_220 rfl (lv_at hl 3 rfl) ?_
  refine lv_iconst (v := nI 1) hx hb dL_law_221 rfl ?_
  refine mv_iadd hx hb dL_law_222 ?_
  refine mv_sld hx hb hX hbl hbA hS (by omega) hL dL_law_223 ?_
  refine lv_aload_n hx hb dL_law_224 rfl (lv_at hl 0 rfl) ?_
  refine lv_iload_n hx hb dL_law_225 rfl (lv_at hl 3 rfl) ?_
  refine lv_iconst (v := nI 2) hx hb dL_law_226 rfl ?_
  refine mv_iadd hx hb dL_law_227 ?_
  refine mv_sld hx hb hX hbl hbA hS (by omega) hL dL_law_228 ?_
  refine vp_callSi (va_Run.run (va_runV (As := [.int (xs (i + 1)), .int (xs (i + 2))]) (rest := []) ⟨hx, hb, hml, hown, hts⟩ (c_X7_person l D cI cL cZ adx AX tx td dr dy lb pn ps ks si kb (xs (i + 1)) (xs (i + 2)) rT.1) (cwV 2 hts gL_law_X7_person rfl rfl rfl (by decide +kernel) ⟨Nat.le_of_ble_eq_true rfl, Nat.le_of_ble_eq_true rfl⟩) ⟨sR_fb, va_recv hK hPx (ci := 7) (q0 := 0) rfl rfl, sR_at hPx hK (hDx _ _ _ _ _ _ _ _ _ _) hE⟩ rfl rfl hl.1 rfl (lv_room (Nat.le_of_ble_eq_true rfl)) dL_law_229 ⟨Nat.le_of_ble_eq_true rfl, Nat.le_of_ble_eq_true rfl⟩)) (fun r1 hr1 => ?_)
  refine lv_aload_n hx hb dL_law_232 rfl (lv_at hl 2 rfl) ?_
  refine lv_aload_n hx hb dL_law_233 rfl (lv_at hl 0 rfl) ?_
  refine lv_iload_n hx hb dL_law_234 rfl (lv_at hl 3 rfl) ?_
  refine lv_iconst (v := nI 1) hx hb dL_law_235 rfl ?_
  refine mv_iadd hx hb dL_law_236 ?_
  refine mv_sld hx hb hX hbl hbA hS (by omega) hL dL_law_237 ?_
  refine lv_aload_n hx hb dL_law_238 rfl (lv_at hl 0 rfl) ?_
  refine lv_iload_n hx hb dL_law_239 rfl (lv_at hl 3 rfl) ?_
  refine lv_iconst (v := nI 2) hx hb dL_law_240 rfl ?_
  refine mv_iadd hx hb dL_law_241 ?_
  refine mv_sld hx hb hX hbl hbA hS (by omega) hL dL_law_242 ?_
  refine vp_callSi (va_Run.run (va_runV (As := [.int (xs (i + 1)), .int (xs (i + 2))]) (rest := [.int r1]) ⟨hx, hb, hml, hown, hts⟩ (c_X8_person l D cI cL cZ adm AM to st mt rd un kp rw_ se (xs (i + 1)) (xs (i + 2)) hm.1 hm6 (rel_so h6 rD)) (cwV 2 hts gL_law_X8_person rfl rfl rfl (by decide +kernel) ⟨Nat.le_of_ble_eq_true rfl, Nat.le_of_ble_eq_true rfl⟩) ⟨sR_fb, va_recv hK hPm (ci := 8) (q0 := 0) rfl rfl, sR_at hPm hK (hDm _ _ _ _ _ _ _ _) hE⟩ rfl rfl hl.1 rfl (lv_room (Nat.le_of_ble_eq_true rfl)) dL_law_243 ⟨Nat.le_of_ble_eq_true rfl, Nat.le_of_ble_eq_true rfl⟩)) (fun r2 hr2 => ?_)
  have hq := person_eq rT rD (xs (i + 1)) (xs (i + 2))
  have he : r1 = r2 := by rw [hr1, hr2]; exact hq
  refine lv_icmp_eq (tgt := 859) hx hb dL_law_246 (by decide) (fun _ => ?_) (fun c_1 => absurd he c_1)
  exact kk _ _ hS ⟨tx, td, dr, dy, lb, pn, ps, ks, si, kb, to, st, mt, rd, un, kp, rw_, se, hPx, hPm, rX, rT, rD, rU, rK, rS, rR⟩
set_option maxHeartbeats 4000000 in
set_option maxRecDepth 100000 in
theorem lc_second_ {p : Program} {e : Env} {s : State} {m : MethodId} {below : List Frame} {meth : Method} {c : Code} {l : Launch} {b L : Nat} {xs : Nat → Int32} (hL : L ≤ 320) (C0 : lw_At p s m meth c b L xs) {D : va_G} {cI cL cZ : ClassId} {AX AM : Nat → Prop} {adx adm adK adV : Nat → Nat} {tO : Nat} (E0 : lwE s D cI cL cZ AX AM adx adm adK adV tO) {i : Nat} (hi : i + 5 ≤ L) {Q : State → Prop} {H : Heap} {locs : List Loc} {ls : Array Slot} (hS : va_S (fun q : Nat => s.heap.size ≤ q) s.heap H locs) (hJ : lwJ D cI cL cZ adx adm H) (hl : lv_has ls 4 [(0, .ref b), (1, .ref (adx 0)), (2, .ref (adm 0)), (3, .int (nI i))]) (kk : ∀ (H1 : Heap) (locs1 : List Loc), va_S (fun q : Nat => s.heap.size ≤ q) s.heap H1 locs1 → lwJ D cI cL cZ adx adm H1 → W p l e room_1 s m #[Value.ref b] below meth c H1 locs1 45 1797 Q (F0 m 859 ls [])) : W p l e room_1 s m #[Value.ref b] below meth c H locs 45 1797 Q (F0 m 251 ls []) := by
  obtain ⟨hx, hb, hr, hml, hown0, hts0, hX, hbl, hlocks, hgv⟩ := id C0
  obtain ⟨hK, hE, hSE, hSL, hOE, hDx, hDm, hAX, hAM, hXM⟩ := E0
  have hown : s.vm.findClass RL = some m.cls := hown0
  have hts : ∀ w ∈ wsL_law, w.before #[Value.ref b] s = true := fun w hw => hts0 w (wsL_law_in w hw)
  have hbA : ¬ (fun q : Nat => s.heap.size ≤ q) b := Nat.not_le.mpr hbl
  obtain ⟨tx, td, dr, dy, lb, pn, ps, ks, si, kb, to, st, mt, rd, un, kp, rw_, se, hPx, hPm, rX, rT, rD, rU, rK, rS, rR⟩ := hJ
  have h6 : pN td ≤ 6 := rT.1
  have hm := told_m rT
  have hm6 : mN to ≤ 6 := by rw [hm.2.1]; exact h6
  refine lv_aload_n hx hb dL_law_251 rfl (lv_at hl 1 rfl) ?_
  refine lv_aload_n hx hb dL_law_252 rfl (lv_at hl 0 rfl) ?_
  refine lv_iload_n hx hb dL_law_253 rfl (lv_at hl 3 rfl) ?_
  refine lv_iconst (v := nI 1) hx hb dL_law_254 rfl ?_
  refine mv_iadd hx hb dL_law_255 ?_
  refine mv_sld hx hb hX hbl hbA hS (by omega) hL dL_law_256 ?_
  refine lv_aload_n hx hb dL_law_257 rfl (lv_at hl 0 rfl) ?_
  refine lv_iload_n hx hb dL_law_258 rfl (lv_at hl 3 rfl) ?_
  refine lv_iconst (v := nI 2) hx hb dL_law_259 rfl ?_
  refine mv_iadd hx hb dL_law_260 ?_
  refine mv_sld hx hb hX hbl hbA hS (by omega) hL dL_law_261 ?_
  refine vp_callSi (va_Run.run (va_runV (As := [.int (xs (i + 1)), .int (xs (i + 2))]) (rest := []) ⟨hx, hb, hml, hown, hts⟩ (c_X7_second l D cI cL cZ adx AX tx td dr dy lb pn ps ks si kb (xs (i + 1)) (xs (i + 2)) rT.1) (cwV 2 hts gL_law_X7_second rfl rfl rfl (by decide +kernel) ⟨Nat.le_of_ble_eq_true rfl, Nat.le_of_ble_eq_true rfl⟩) ⟨sR_fb, va_recv hK hPx (ci := 7) (q0 := 0) rfl rfl, sR_at hPx hK (hDx _ _ _ _ _ _ _ _ _ _) hE⟩ rfl rfl hl.1 rfl (lv_room (Nat.le_of_ble_eq_true rfl)) dL_law_262 ⟨Nat.le_of_ble_eq_true rfl, Nat.le_of_ble_eq_true rfl⟩)) (fun r1 hr1 => ?_)
  refine lv_aload_n hx hb dL_law_265 rfl (lv_at hl 2 rfl) ?_
  refine lv_aload_n hx hb dL_law_266 rfl (lv_at hl 0 rfl) ?_
  refine lv_iload_n hx hb dL_law_267 rfl (lv_at hl 3 rfl) ?_
  refine lv_iconst (v := nI 1) hx hb dL_law_268 rfl ?_
  refine mv_iadd hx hb dL_law_269 ?_
  refine mv_sld hx hb hX hbl hbA hS (by omega) hL dL_law_270 ?_
  refine lv_aload_n hx hb dL_law_271 rfl (lv_at hl 0 rfl) ?_
  refine lv_iload_n hx hb dL_law_272 rfl (lv_at hl 3 rfl) ?_
  refine lv_iconst (v := nI 2) hx hb dL_law_273 rfl ?_
  refine mv_iadd hx hb dL_law_274 ?_
  refine mv_sld hx hb hX hbl hbA hS (by omega) hL dL_law_275 ?_
  refine vp_callSi (va_Run.run (va_runV (As := [.int (xs (i + 1)), .int (xs (i + 2))]) (rest := [.int r1]) ⟨hx, hb, hml, hown, hts⟩ (c_X8_second l D cI cL cZ adm AM to st mt rd un kp rw_ se (xs (i + 1)) (xs (i + 2)) hm.1 hm6) (cwV 2 hts gL_law_X8_second rfl rfl rfl (by decide +kernel) ⟨Nat.le_of_ble_eq_true rfl, Nat.le_of_ble_eq_true rfl⟩) ⟨sR_fb, va_recv hK hPm (ci := 8) (q0 := 0) rfl rfl, sR_at hPm hK (hDm _ _ _ _ _ _ _ _) hE⟩ rfl rfl hl.1 rfl (lv_room (Nat.le_of_ble_eq_true rfl)) dL_law_276 ⟨Nat.le_of_ble_eq_true rfl, Nat.le_of_ble_eq_true rfl⟩)) (fun r2 hr2 => ?_)
  have hq := second_eq rT rD (xs (i + 1)) (xs (i + 2))
  have he : r1 = r2 := by rw [hr1, hr2]; exact hq
  refine lv_icmp_eq (tgt := 859) hx hb dL_law_279 (by decide) (fun _ => ?_) (fun c_1 => absurd he c_1)
  exact kk _ _ hS ⟨tx, td, dr, dy, lb, pn, ps, ks, si, kb, to, st, mt, rd, un, kp, rw_, se, hPx, hPm, rX, rT, rD, rU, rK, rS, rR⟩
set_option maxHeartbeats 4000000 in
set_option maxRecDepth 100000 in
theorem lc_as_ {p : Program} {e : Env} {s : State} {m : MethodId} {below : List Frame} {meth : Method} {c : Code} {l : Launch} {b L : Nat} {xs : Nat → Int32} (hL : L ≤ 320) (C0 : lw_At p s m meth c b L xs) {D : va_G} {cI cL cZ : ClassId} {AX AM : Nat → Prop} {adx adm adK adV : Nat → Nat} {tO : Nat} (E0 : lwE s D cI cL cZ AX AM adx adm adK adV tO) {i : Nat} (hi : i + 5 ≤ L) {Q : State → Prop} {H : Heap} {locs : List Loc} {ls : Array Slot} (hS : va_S (fun q : Nat => s.heap.size ≤ q) s.heap H locs) (hJ : lwJ D cI cL cZ adx adm H) (hl : lv_has ls 4 [(0, .ref b), (1, .ref (adx 0)), (2, .ref (adm 0)), (3, .int (nI i))]) (kk : ∀ (H1 : Heap) (locs1 : List Loc), va_S (fun q : Nat => s.heap.size ≤ q) s.heap H1 locs1 → lwJ D cI cL cZ adx adm H1 → W p l e room_1 s m #[Value.ref b] below meth c H1 locs1 45 1797 Q (F0 m 859 ls [])) : W p l e room_1 s m #[Value.ref b] below meth c H locs 45 1797 Q (F0 m 284 ls []) := by
  obtain ⟨hx, hb, hr, hml, hown0, hts0, hX, hbl, hlocks, hgv⟩ := id C0
  obtain ⟨hK, hE, hSE, hSL, hOE, hDx, hDm, hAX, hAM, hXM⟩ := E0
  have hown : s.vm.findClass RL = some m.cls := hown0
  have hts : ∀ w ∈ wsL_law, w.before #[Value.ref b] s = true := fun w hw => hts0 w (wsL_law_in w hw)
  have hbA : ¬ (fun q : Nat => s.heap.size ≤ q) b := Nat.not_le.mpr hbl
  obtain ⟨tx, td, dr, dy, lb, pn, ps, ks, si, kb, to, st, mt, rd, un, kp, rw_, se, hPx, hPm, rX, rT, rD, rU, rK, rS, rR⟩ := hJ
  have h6 : pN td ≤ 6 := rT.1
  have hm := told_m rT
  have hm6 : mN to ≤ 6 := by rw [hm.2.1]; exact h6
  refine lv_aload_n hx hb dL_law_284 rfl (lv_at hl 1 rfl) ?_
  refine lv_aload_n hx hb dL_law_285 rfl (lv_at hl 0 rfl) ?_
  refine lv_iload_n hx hb dL_law_286 rfl (lv_at hl 3 rfl) ?_
  refine lv_iconst (v := nI 1) hx hb dL_law_287 rfl ?_
  refine mv_iadd hx hb dL_law_288 ?_
  refine mv_sld hx hb hX hbl hbA hS (by omega) hL dL_law_289 ?_
  refine lv_aload_n hx hb dL_law_290 rfl (lv_at hl 0 rfl) ?_
  refine lv_iload_n hx hb dL_law_291 rfl (lv_at hl 3 rfl) ?_
  refine lv_iconst (v := nI 2) hx hb dL_law_292 rfl ?_
  refine mv_iadd hx hb dL_law_293 ?_
  refine mv_sld hx hb hX hbl hbA hS (by omega) hL dL_law_294 ?_
  refine vp_callSi (va_Run.run (va_runV (As := [.int (xs (i + 1)), .int (xs (i + 2))]) (rest := []) ⟨hx, hb, hml, hown, hts⟩ (c_X7_as l D cI cL cZ adx AX tO tx td dr dy lb pn ps ks si kb (xs (i + 1)) (xs (i + 2)) ) (cwV 2 hts gL_law_X7_as rfl rfl rfl (by decide +kernel) ⟨Nat.le_of_ble_eq_true rfl, Nat.le_of_ble_eq_true rfl⟩) ⟨fun a U g mk q => ⟨q.1, (sR_fb (av := [.ref (adx 0), .int (xs (i + 1)), .int (xs (i + 2))]) a U g mk ⟨q.1, q.2.1⟩).2, q.2.2.calling⟩, va_recv hK hPx (ci := 7) (q0 := 0) rfl rfl, fun U hU hW => ⟨rfl, (sR_at (av := [.ref (adx 0), .int (xs (i + 1)), .int (xs (i + 2))]) hPx hK (hDx _ _ _ _ _ _ _ _ _ _) hE U hU hW).2, hOE.at (onlyX hS) hU hW⟩⟩ rfl rfl hl.1 rfl (lv_room (Nat.le_of_ble_eq_true rfl)) dL_law_295 ⟨Nat.le_of_ble_eq_true rfl, Nat.le_of_ble_eq_true rfl⟩)) (fun r1 hr1 => ?_)
  refine lv_aload_n hx hb dL_law_298 rfl (lv_at hl 2 rfl) ?_
  refine lv_aload_n hx hb dL_law_299 rfl (lv_at hl 0 rfl) ?_
  refine lv_iload_n hx hb dL_law_300 rfl (lv_at hl 3 rfl) ?_
  refine lv_iconst (v := nI 1) hx hb dL_law_301 rfl ?_
  refine mv_iadd hx hb dL_law_302 ?_
  refine mv_sld hx hb hX hbl hbA hS (by omega) hL dL_law_303 ?_
  refine lv_aload_n hx hb dL_law_304 rfl (lv_at hl 0 rfl) ?_
  refine lv_iload_n hx hb dL_law_305 rfl (lv_at hl 3 rfl) ?_
  refine lv_iconst (v := nI 2) hx hb dL_law_306 rfl ?_
  refine mv_iadd hx hb dL_law_307 ?_
  refine mv_sld hx hb hX hbl hbA hS (by omega) hL dL_law_308 ?_
  refine vp_callSi (va_Run.run (va_runV (As := [.int (xs (i + 1)), .int (xs (i + 2))]) (rest := [.int r1]) ⟨hx, hb, hml, hown, hts⟩ (c_X8_as l D cI cL cZ adm AM to st mt rd un kp rw_ se (xs (i + 1)) (xs (i + 2)) hm.1 hm6) (cwV 2 hts gL_law_X8_as rfl rfl rfl (by decide +kernel) ⟨Nat.le_of_ble_eq_true rfl, Nat.le_of_ble_eq_true rfl⟩) ⟨sR_fb, va_recv hK hPm (ci := 8) (q0 := 0) rfl rfl, sR_at hPm hK (hDm _ _ _ _ _ _ _ _) hE⟩ rfl rfl hl.1 rfl (lv_room (Nat.le_of_ble_eq_true rfl)) dL_law_309 ⟨Nat.le_of_ble_eq_true rfl, Nat.le_of_ble_eq_true rfl⟩)) (fun r2 hr2 => ?_)
  have hq := as_eq rT (xs (i + 1)) (xs (i + 2))
  have he : r1 = r2 := by rw [hr1, hr2]; exact hq
  refine lv_icmp_eq (tgt := 859) hx hb dL_law_312 (by decide) (fun _ => ?_) (fun c_1 => absurd he c_1)
  exact kk _ _ hS ⟨tx, td, dr, dy, lb, pn, ps, ks, si, kb, to, st, mt, rd, un, kp, rw_, se, hPx, hPm, rX, rT, rD, rU, rK, rS, rR⟩
