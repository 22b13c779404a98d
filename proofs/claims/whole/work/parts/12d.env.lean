/-! what the tables and the Statement give of the start -/
theorem tbm {i : Nat} {w : Cond} (h : tables_1[i]? = some w) : w ∈ lw_tbl := List.mem_append_right _ (List.mem_of_getElem? h)
def tmS (i : Nat) : Term := .string "SummitTime$Text" ([92, 98, 100, 102, 104, 105, 107, 109].getD i 0)
theorem nw_ex : ∀ i, i < 8 → Cond.exactly (tmS i) "java/lang/String" ∈ flatC (Jvm.Cond.and given_1 narrow_1) := by decide +kernel
theorem nw_co : ∀ i, i < 8 → Cond.eq (.field (tmS i) "java/lang/String" "coder" "B") (.int 0) ∈ flatC (Jvm.Cond.and given_1 narrow_1) := by decide +kernel
theorem nw_ar : ∀ i, i < 8 → Cond.arrayOf (.field (tmS i) "java/lang/String" "value" "[B") .byte ∈ flatC (Jvm.Cond.and given_1 narrow_1) := by decide +kernel
theorem nw_le : ∀ i, i < 8 → Cond.eq (.length (.field (tmS i) "java/lang/String" "value" "[B")) (.int (Int32.ofNat (lenS.getD i 0))) ∈ flatC (Jvm.Cond.and given_1 narrow_1) := by decide +kernel
theorem nw_el : ∀ i, i < 8 → ∀ j, j < lenS.getD i 0 → Cond.eq (.elem (.field (tmS i) "java/lang/String" "value" "[B") (.int (Int32.ofNat j))) (.int ((bytS.getD i []).getD j 0)) ∈ flatC (Jvm.Cond.and given_1 narrow_1) := by decide +kernel
theorem nw_ne : ∀ i, i < 8 → ∀ j, j < 8 → i ≠ j → (Cond.not (Cond.eq (tmS i) (tmS j)) ∈ flatC (Jvm.Cond.and given_1 narrow_1) ∨ Cond.not (Cond.eq (tmS j) (tmS i)) ∈ flatC (Jvm.Cond.and given_1 narrow_1)) := by decide +kernel
theorem nw_ov : ∀ j, j < 5 → Cond.eq (.elem (.static "SummitTime" "OVER" "[I") (.int (Int32.ofNat j))) (.int (ovI j)) ∈ flatC (Jvm.Cond.and given_1 narrow_1) := by decide +kernel
section EV
variable {s : State} {b : Nat}
theorem env_nE (hts : ∀ w ∈ lw_tbl, w.before #[Value.ref b] s = true) : nE s := ⟨va_Nw.of rfl (hts _ (tbm (i := 436) (by decide +kernel))), va_Nw.of rfl (hts _ (tbm (i := 66) (by decide +kernel))), va_Nw.of rfl (hts _ (tbm (i := 62) (by decide +kernel))), va_Nw.of rfl (hts _ (tbm (i := 101) (by decide +kernel))), va_Nw.of rfl (hts _ (tbm (i := 92) (by decide +kernel))), va_Nw.of rfl (hts _ (tbm (i := 94) (by decide +kernel))), va_Nw.of rfl (hts _ (tbm (i := 96) (by decide +kernel))), va_Nw.of rfl (hts _ (tbm (i := 99) (by decide +kernel))), va_Nw.of rfl (hts _ (tbm (i := 68) (by decide +kernel))), va_Nw.of rfl (hts _ (tbm (i := 63) (by decide +kernel))), va_Nw.of rfl (hts _ (tbm (i := 349) (by decide +kernel))), va_Nw.of rfl (hts _ (tbm (i := 340) (by decide +kernel))), va_Nw.of rfl (hts _ (tbm (i := 100) (by decide +kernel))), va_Nw.of rfl (hts _ (tbm (i := 67) (by decide +kernel))), va_Nw.of rfl (hts _ (tbm (i := 64) (by decide +kernel))), va_Nw.of rfl (hts _ (tbm (i := 97) (by decide +kernel))), trivial⟩
theorem env_S (hts : ∀ w ∈ lw_tbl, w.before #[Value.ref b] s = true) (hgv : (Jvm.Cond.and given_1 narrow_1).before #[Value.ref b] s = true) : ∃ adK adV : Nat → Nat, sE adK adV (fun q : Nat => s.heap.size ≤ q) s ∧ sL adK s := by
  have hf := flat_of_before _ hgv
  have hA : ∀ a : Nat, a < s.heap.size → ¬ (fun q : Nat => s.heap.size ≤ q) a := fun a h => Nat.not_le.mpr h
  obtain ⟨adK, adV, hS, hV⟩ := vk_Sof (N := 8) (tm := tmS) (len := lenS) (byt := bytS) (A := fun q : Nat => s.heap.size ≤ q) (by decide) (fun i hi => hf _ (nw_ex i hi)) (fun i hi => hf _ (nw_co i hi)) (fun i hi => hf _ (nw_ar i hi)) (fun i hi => hf _ (nw_le i hi)) (fun i hi j hj => hf _ (nw_el i hi j hj)) (fun i j hi hj hij => (nw_ne i hi j hj hij).elim (fun h => Or.inl (hf _ h)) (fun h => Or.inr (hf _ h))) hA
  refine ⟨adK, adV, ⟨hS, va_Zof (hts _ (tbm (i := 282) (by decide +kernel))) (hts _ (tbm (i := 11) (by decide +kernel))) (va_eqi (hf _ (by decide +kernel))) hA, va_Zqof (hts _ (tbm (i := 298) (by decide +kernel))) (hts _ (tbm (i := 13) (by decide +kernel))) (hf _ (by decide +kernel)) hA⟩, 
    vk_R.of (hts _ (tbm (i := 268) (by decide +kernel))) (hV 0 (by decide)), vk_R.of (hts _ (tbm (i := 321) (by decide +kernel))) (hV 1 (by decide)), vk_R.of (hts _ (tbm (i := 322) (by decide +kernel))) (hV 2 (by decide)), vk_R.of (hts _ (tbm (i := 323) (by decide +kernel))) (hV 3 (by decide)), vk_R.of (hts _ (tbm (i := 324) (by decide +kernel))) (hV 4 (by decide)), vk_R.of (hts _ (tbm (i := 325) (by decide +kernel))) (hV 5 (by decide)), vk_R.of (hts _ (tbm (i := 326) (by decide +kernel))) (hV 6 (by decide)), vk_R.of (hts _ (tbm (i := 327) (by decide +kernel))) (hV 7 (by decide))⟩
theorem env_O (hts : ∀ w ∈ lw_tbl, w.before #[Value.ref b] s = true) (hgv : (Jvm.Cond.and given_1 narrow_1).before #[Value.ref b] s = true) : ∃ tO : Nat, oE (fun q : Nat => s.heap.size ≤ q) tO s := by
  have hf := flat_of_before _ hgv
  have hA : ∀ a : Nat, a < s.heap.size → ¬ (fun q : Nat => s.heap.size ≤ q) a := fun a h => Nat.not_le.mpr h
  obtain ⟨t, ht, hT⟩ := va_Tof (tm := .static "SummitTime" "OVER" "[I") (ty := .int) (N := 5) (f := fun j => .int (ovI j)) (A := fun q : Nat => s.heap.size ≤ q) (by decide) (hf _ (by decide +kernel)) (va_eqt (hf (Cond.eq (.length (.static "SummitTime" "OVER" "[I")) (.int (Int32.ofNat 5))) (by decide +kernel))) (fun j hj => va_eqt (hf _ (nw_ov j hj))) hA
  exact ⟨t, va_Zof (hts _ (tbm (i := 502) (by decide +kernel))) (hts _ (tbm (i := 1) (by decide +kernel))) ht hA, hT⟩
theorem env_K (hts : ∀ w ∈ lw_tbl, w.before #[Value.ref b] s = true) : ∃ (D : va_G) (cI cL cZ : ClassId), va_K D vwCl (tyS cI cL cZ) s := by
  obtain ⟨c0, i0, k0⟩ := u_known (C := RX0) (T := TX0) (N := 4) (n := 4) hts wsL_in_x0 (hts (.instantiable RX0 4) (tbm (i := 86) (by decide +kernel)))
  obtain ⟨c1, i1, k1⟩ := u_known (C := RX1) (T := TX1) (N := 3) (n := 3) hts wsL_in_x1 (hts (.instantiable RX1 3) (tbm (i := 112) (by decide +kernel)))
  obtain ⟨c2, i2, k2⟩ := u_known (C := RX2) (T := TX2) (N := 3) (n := 3) hts wsL_in_x2 (hts (.instantiable RX2 3) (tbm (i := 128) (by decide +kernel)))
  obtain ⟨c3, i3, k3⟩ := u_known (C := RX3) (T := TX3) (N := 5) (n := 5) hts wsL_in_x3 (hts (.instantiable RX3 5) (tbm (i := 134) (by decide +kernel)))
  obtain ⟨c4, i4, k4⟩ := u_known (C := RX4) (T := TX4) (N := 3) (n := 3) hts wsL_in_x4 (hts (.instantiable RX4 3) (tbm (i := 171) (by decide +kernel)))
  obtain ⟨c5, i5, k5⟩ := u_known (C := RX5) (T := TX5) (N := 6) (n := 6) hts wsL_in_x5 (hts (.instantiable RX5 6) (tbm (i := 25) (by decide +kernel)))
  obtain ⟨c6, i6, k6⟩ := u_known (C := RX6) (T := TX6) (N := 7) (n := 7) hts wsL_in_x6 (hts (.instantiable RX6 7) (tbm (i := 51) (by decide +kernel)))
  obtain ⟨c7, i7, k7⟩ := u_known (C := RX7) (T := TX7) (N := 9) (n := 9) hts wsL_in_x7 (hts (.instantiable RX7 9) (tbm (i := 17) (by decide +kernel)))
  obtain ⟨c8, i8, k8⟩ := u_known (C := RX8) (T := TX8) (N := 18) (n := 18) hts wsL_in_x8 (hts (.instantiable RX8 18) (tbm (i := 714) (by decide +kernel)))
  obtain ⟨cI, kI, oI, aI, bI, dI⟩ := Cond.arrayClass_spec (hts (.arrayClass .int) (tbm (i := 49) (by decide +kernel)))
  obtain ⟨cL, kL, oL, aL, bL, dL⟩ := Cond.arrayClass_spec (hts (.arrayClass .long) (tbm (i := 84) (by decide +kernel)))
  obtain ⟨cZ, kZ, oZ, aZ, bZ, dZ⟩ := Cond.arrayClass_spec (hts (.arrayClass .boolean) (tbm (i := 778) (by decide +kernel)))
  refine ⟨(fun k => match k with | 0 => c0 | 1 => c1 | 2 => c2 | 3 => c3 | 4 => c4 | 5 => c5 | 6 => c6 | 7 => c7 | _ => c8, fun k => match k with | 0 => i0 | 1 => i1 | 2 => i2 | 3 => i3 | 4 => i4 | 5 => i5 | 6 => i6 | 7 => i7 | _ => i8), cI, cL, cZ, fun k q hq => ?_, fun k q hq => ?_⟩
  · match k, hq with
    | 0, hq => cases hq; exact k0
    | 1, hq => cases hq; exact k1
    | 2, hq => cases hq; exact k2
    | 3, hq => cases hq; exact k3
    | 4, hq => cases hq; exact k4
    | 5, hq => cases hq; exact k5
    | 6, hq => cases hq; exact k6
    | 7, hq => cases hq; exact k7
    | 8, hq => cases hq; exact k8
    | k + 9, hq => simp [vwCl] at hq
  · match k, hq with
    | 0, hq => cases hq; exact ⟨fun n z => ⟨fun k h => (by cases h), kI, bI, oI, dI⟩, aI⟩
    | 1, hq => cases hq; exact ⟨fun n z => ⟨fun k h => (by cases h), kL, bL, oL, dL⟩, aL⟩
    | 2, hq => cases hq; exact ⟨fun n z => ⟨fun k h => (by cases h), kZ, bZ, oZ, dZ⟩, aZ⟩
    | k + 3, hq => simp at hq
end EV
