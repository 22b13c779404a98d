/-! what the contracts ask, out of the relation -/
theorem rel_so {P : Nat} {dy : XDy} {st : Nat → Int32} (h6 : P ≤ 6) (hD : dayX P dy st) : ∀ j, j < 60 → (st j).toNatClampNeg < 6 := fun j hj => by
  rcases hD.1.1 j hj with ⟨e, _⟩ | ⟨p, hp, e, _⟩
  · rw [e]
    decide
  · rw [e, nI_clamp (by omega)]
    omega
theorem rel_sm {td : XTd} {to : Nat → Int32} {dy : XDy} {st : Nat → Int32} (hT : toldR td to) (hD : dayX (pN td) dy st) : ∀ p, p < mN to → (f_X8_standMany to st p = nI (f_X8_standMany to st p).toNatClampNeg ∧ (f_X8_standMany to st p).toNatClampNeg ≤ 6) := fun p hp => by
  rw [(told_m hT).2.1] at hp
  have := stand_6 hT hD hp
  rw [standMany_num, nI_clamp (by omega)]
  exact ⟨rfl, this⟩
theorem rel_th {td : XTd} {to : Nat → Int32} {dy : XDy} {st : Nat → Int32} (hT : toldR td to) (hD : dayX (pN td) dy st) : ∀ p, p < mN to → ¬ f_X8_thereBy to st p (nI 0) < 0 := fun p hp => by
  rw [(told_m hT).2.1] at hp
  obtain ⟨w1, w2, w3, w4⟩ := told_walk hT hp
  obtain ⟨h5, c, hc, h7⟩ := day_clk hD
  unfold f_X8_thereBy
  rw [w2, h5, h7, nI_add, nI_add]
  exact nI_pos (by omega)
theorem rel_sp {P : Nat} {si : XSi} {se : MUn} (h6 : P ≤ 6) (hS : seenR P si se) : ∀ k, k < se.2 → (se.1 (2 * k) = nI (se.1 (2 * k)).toNatClampNeg ∧ (se.1 (2 * k)).toNatClampNeg < 6) := fun k hk => by
  rw [hS.2.1] at hk
  obtain ⟨e1, _, p, hp, e2⟩ := hS.2.2 k hk
  rw [e1, e2, nI_clamp (by omega)]
  exact ⟨rfl, by omega⟩
theorem rel_bc {td : XTd} {to : Nat → Int32} {dy : XDy} {st : Nat → Int32} (hT : toldR td to) (hD : dayX (pN td) dy st) (pe : Int32) : (f_J13_bitCount_95d88 (f_X7_standsNow td dy pe)) = nI (f_J13_bitCount_95d88 (f_X7_standsNow td dy pe)).toNatClampNeg ∧ (f_J13_bitCount_95d88 (f_X7_standsNow td dy pe)).toNatClampNeg ≤ 6 := by
  have h6 : pN td ≤ 6 := hT.1
  by_cases hk : f_X6_knows td pe = 0
  · have hs : f_X0_startOf dy pe = -1 := by
      unfold f_X0_startOf
      by_cases h1 : pe < 0
      · rw [if_pos h1]
      · rw [if_neg h1]
        by_cases h2 : nI 6 ≤ pe
        · rw [if_pos h2]
        · rw [if_neg h2]
          obtain ⟨j, hj, e⟩ := nI_of h1
          subst e
          rw [nI_leI (by decide) hj] at h2
          rw [nI_clamp hj]
          rcases (hD.2.1 j (by omega)).2 with e | ⟨h, _⟩
          · exact e
          · exact absurd hk ((knows_iff h6 (nI j)).mpr ⟨j, h, rfl⟩)
    have hz : f_X7_standsNow td dy pe = 0 := by
      unfold f_X7_standsNow f_X1_stands
      rw [hs, if_pos rfl]
    have hc : f_J13_bitCount_95d88 0 = nI 0 := by
      rw [bitCount_eq, fb_ct_zero.mpr (fun k _ => bL_0 k)]
    rw [hz, hc]
    decide
  · obtain ⟨p, hp, e⟩ := (knows_iff h6 pe).mp hk
    subst e
    have := stand_6 hT hD hp
    rw [standsNow_ct hT hD hp, nI_clamp (by omega)]
    exact ⟨rfl, this⟩
/-! the two worlds side by side -/
def lwJ (D : va_G) (cI cL cZ : ClassId) (adx adm : Nat → Nat) (H : Heap) : Prop := ∃ (tx : XTx) (td dr : XTd) (dy : XDy) (lb : Nat → Int32) (pn : Nat × Nat) (ps ks : XSh) (si : XSi) (kb : Int32) (to st : Nat → Int32) (mt : MTx) (rd : Nat → Int32) (un : MUn) (kp rw_ : MKp) (se : MUn), va_P D vwCl (xW cI cL cZ adx tx td dr dy lb pn ps ks si kb) H ∧ va_P D vwCl (mW cI cL cZ adm to st mt rd un kp rw_ se) H ∧ Rel tx td dy pn ps ks si kb to st mt un kp rw_ se
def lwE (s : State) (D : va_G) (cI cL cZ : ClassId) (AX AM : Nat → Prop) (adx adm adK adV : Nat → Nat) (tO : Nat) : Prop := va_K D vwCl (tyS cI cL cZ) s ∧ nE s ∧ sE adK adV AX s ∧ sL adK s ∧ oE AX tO s ∧ (∀ (tx : XTx) (td dr : XTd) (dy : XDy) (lb : Nat → Int32) (pn : Nat × Nat) (ps ks : XSh) (si : XSi) (kb : Int32), va_D AX (xW cI cL cZ adx tx td dr dy lb pn ps ks si kb)) ∧ (∀ (to st : Nat → Int32) (mt : MTx) (rd : Nat → Int32) (un : MUn) (kp rw_ : MKp) (se : MUn), va_D AM (mW cI cL cZ adm to st mt rd un kp rw_ se)) ∧ (∀ q, AX q → s.heap.size ≤ q) ∧ (∀ q, AM q → s.heap.size ≤ q) ∧ ∀ q, AX q → ¬ AM q
theorem keepX {D : va_G} {A B : Nat → Prop} {ws : va_W} {H H1 : Heap} (hP : va_P D vwCl ws H) (hD : va_D A ws) (hAB : ∀ q, A q → ¬ B q) (hk : ∀ q : Nat, q < H.size → ¬ B q → H1[q]? = H[q]?) : va_P D vwCl ws H1 := hP.kept (fun k q hq => hk q.1 (hP k q hq).lt (hAB q.1 (hD.2 k q hq)))
theorem onlyX {A : Nat → Prop} {s : State} {H : Heap} {locs : List Loc} (hS : va_S (fun q : Nat => s.heap.size ≤ q) s.heap H locs) : va_S A s.heap H [] := ⟨hS.1, fun q h1 _ => hS.2.1 q h1 (Nat.not_le.mpr h1), fun _ h => by cases h⟩
section SL
variable {p : Program} {l : Launch} {e : Env} {R : Room} {s : State} {m : MethodId} {args : Array Value} {below : List Frame} {meth : Method} {c : Code} {H H0 : Heap} {locs : List Loc} {cells slots : Nat} {Q : State → Prop} {cc : ByteArray} {pc : Nat} {ls : Array Slot} {rest : List Value} {A : Nat → Prop}
theorem mv_sld (hexec : p.tables.exec = Jvm.exec) (hb : c.code = cc) {b L : Nat} {xs : Nat → Int32} (hX : va_X b L xs s H0) (hbl : b < H0.size) (hbA : ¬ A b) (hS : va_S A H0 H locs) {j : Nat} (hj : j < L) (hL : L ≤ 320) (hdg : decode cc pc = .ok (.iaload, 1))
    (kk : W p l e R s m args below meth c H locs cells slots Q (F0 m (pc + 1) ls (.int (xs j) :: rest))) : W p l e R s m args below meth c H locs cells slots Q (F0 m pc ls (.int (nI j) :: .ref b :: rest)) := va_sld hexec hb hX hbl hbA hS (vp_in_nI hj (by omega)) hdg (by rw [nI_clamp (by omega)]; exact kk)
end SL
