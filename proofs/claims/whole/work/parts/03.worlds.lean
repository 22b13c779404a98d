abbrev XTx : Type := (Nat → Int32) × Nat × Nat × Nat × Int32 × Nat
abbrev XTd : Type := (Nat → Int32) × (Nat → Int32) × (Nat → Int32) × (Nat → Int32) × (Nat → Int64) × Nat × Int64
abbrev XDy : Type := (Nat → Int32) × (Nat → Int64) × Int32 × Int32
abbrev XSh : Type := (Nat → Int32) × (Nat → Int64) × (Nat → Int32) × (Nat → Int32)
abbrev XSi : Type := (Nat → Int32) × (Nat → Int32) × Nat
abbrev MTx : Type := (Nat → Int32) × Nat × Nat × Int32 × Int32 × Nat × Nat
abbrev MUn : Type := (Nat → Int32) × Nat
abbrev MKp : Type := (Nat → Int32) × (Nat → Int32)
def xW (cI cL cZ : ClassId) (ad : Nat → Nat) (tx : XTx) (td : XTd) (dr : XTd) (dy : XDy) (lb : (Nat → Int32)) (pn : (Nat × Nat)) (ps : XSh) (ks : XSh) (si : XSi) (kb : Int32) : va_W := [(ad 0, .inr (7, [.ref (ad 1), .ref (ad 3), .ref (ad 9), .ref (ad 15), .ref (ad 18), .ref (ad 20), .ref (ad 26), .ref (ad 31), .int kb])),
  (ad 1, .inr (5, [.ref (ad 2), .int (nI tx.2.1), .int (nI tx.2.2.1), .int (nI tx.2.2.2.1), .int tx.2.2.2.2.1, .int (nI tx.2.2.2.2.2)])),
  (ad 2, .inl (cI, 160, .inl tx.1)),
  (ad 3, .inr (6, [.ref (ad 4), .ref (ad 5), .ref (ad 6), .ref (ad 7), .ref (ad 8), .int (nI td.2.2.2.2.2.1), .long td.2.2.2.2.2.2])),
  (ad 4, .inl (cI, 6, .inl td.1)),
  (ad 5, .inl (cI, 6, .inl td.2.1)),
  (ad 6, .inl (cI, 6, .inl td.2.2.1)),
  (ad 7, .inl (cI, 6, .inl td.2.2.2.1)),
  (ad 8, .inl (cL, 6, .inr (.inl td.2.2.2.2.1))),
  (ad 9, .inr (6, [.ref (ad 10), .ref (ad 11), .ref (ad 12), .ref (ad 13), .ref (ad 14), .int (nI dr.2.2.2.2.2.1), .long dr.2.2.2.2.2.2])),
  (ad 10, .inl (cI, 6, .inl dr.1)),
  (ad 11, .inl (cI, 6, .inl dr.2.1)),
  (ad 12, .inl (cI, 6, .inl dr.2.2.1)),
  (ad 13, .inl (cI, 6, .inl dr.2.2.2.1)),
  (ad 14, .inl (cL, 6, .inr (.inl dr.2.2.2.2.1))),
  (ad 15, .inr (0, [.ref (ad 16), .ref (ad 17), .int dy.2.2.1, .int dy.2.2.2])),
  (ad 16, .inl (cI, 6, .inl dy.1)),
  (ad 17, .inl (cL, 6, .inr (.inl dy.2.1))),
  (ad 18, .inr (1, [.ref (ad 3), .ref (ad 15), .ref (ad 19)])),
  (ad 19, .inl (cI, 64, .inl lb)),
  (ad 20, .inr (2, [.ref (ad 21), .int (nI pn.1), .int (nI pn.2)])),
  (ad 21, .inr (3, [.int (nI 8), .ref (ad 22), .ref (ad 23), .ref (ad 24), .ref (ad 25)])),
  (ad 22, .inl (cI, 48, .inl ps.1)),
  (ad 23, .inl (cL, 48, .inr (.inl ps.2.1))),
  (ad 24, .inl (cI, 8, .inl ps.2.2.1)),
  (ad 25, .inl (cI, 8, .inl ps.2.2.2)),
  (ad 26, .inr (3, [.int (nI 2), .ref (ad 27), .ref (ad 28), .ref (ad 29), .ref (ad 30)])),
  (ad 27, .inl (cI, 12, .inl ks.1)),
  (ad 28, .inl (cL, 12, .inr (.inl ks.2.1))),
  (ad 29, .inl (cI, 2, .inl ks.2.2.1)),
  (ad 30, .inl (cI, 2, .inl ks.2.2.2)),
  (ad 31, .inr (4, [.ref (ad 32), .ref (ad 33), .int (nI si.2.2)])),
  (ad 32, .inl (cI, 6, .inl si.1)),
  (ad 33, .inl (cI, 6, .inl si.2.1))]
theorem xW_D {A : Nat → Prop} {cI cL cZ : ClassId} {ad : Nat → Nat} {tx : XTx} {td : XTd} {dr : XTd} {dy : XDy} {lb : (Nat → Int32)} {pn : (Nat × Nat)} {ps : XSh} {ks : XSh} {si : XSi} {kb : Int32} {tx' : XTx} {td' : XTd} {dr' : XTd} {dy' : XDy} {lb' : (Nat → Int32)} {pn' : (Nat × Nat)} {ps' : XSh} {ks' : XSh} {si' : XSi} {kb' : Int32} (h : va_D A (xW cI cL cZ ad tx td dr dy lb pn ps ks si kb)) : va_D A (xW cI cL cZ ad tx' td' dr' dy' lb' pn' ps' ks' si' kb') := dD_of h rfl
def mW (cI cL cZ : ClassId) (ad : Nat → Nat) (to : (Nat → Int32)) (st : (Nat → Int32)) (mt : MTx) (rd : (Nat → Int32)) (un : MUn) (kp : MKp) (rw : MKp) (se : MUn) : va_W := [(ad 0, .inr (8, [.ref (ad 1), .ref (ad 2), .ref (ad 3), .int (nI mt.2.1), .int (nI mt.2.2.1), .int mt.2.2.2.1, .int mt.2.2.2.2.1, .int (nI mt.2.2.2.2.2.1), .ref (ad 4), .int (nI mt.2.2.2.2.2.2), .ref (ad 5), .int (nI un.2), .ref (ad 6), .ref (ad 7), .ref (ad 8), .ref (ad 9), .ref (ad 10), .int (nI se.2)])),
  (ad 1, .inl (cI, 145, .inl to)),
  (ad 2, .inl (cI, 73, .inl st)),
  (ad 3, .inl (cI, 160, .inl mt.1)),
  (ad 4, .inl (cI, 145, .inl rd)),
  (ad 5, .inl (cI, 584, .inl un.1)),
  (ad 6, .inl (cZ, 2, .inl kp.1)),
  (ad 7, .inl (cI, 146, .inl kp.2)),
  (ad 8, .inl (cI, 6, .inl rw.1)),
  (ad 9, .inl (cI, 6, .inl rw.2)),
  (ad 10, .inl (cI, 12, .inl se.1))]
theorem mW_D {A : Nat → Prop} {cI cL cZ : ClassId} {ad : Nat → Nat} {to : (Nat → Int32)} {st : (Nat → Int32)} {mt : MTx} {rd : (Nat → Int32)} {un : MUn} {kp : MKp} {rw : MKp} {se : MUn} {to' : (Nat → Int32)} {st' : (Nat → Int32)} {mt' : MTx} {rd' : (Nat → Int32)} {un' : MUn} {kp' : MKp} {rw' : MKp} {se' : MUn} (h : va_D A (mW cI cL cZ ad to st mt rd un kp rw se)) : va_D A (mW cI cL cZ ad to' st' mt' rd' un' kp' rw' se') := dD_of h rfl
/-- links of nest mates -/
def nE (U : State) : Prop := va_Nw (.methodLinkNest RX1 32 yX7_span "SummitTime") U ∧ va_Nw (.fieldLinkNest RX1 47 "SummitTime$Told" "clouds" "J" "SummitTime") U ∧ va_Nw (.fieldLinkNest RX1 65 "SummitTime$Told" "people" "I" "SummitTime") U ∧ va_Nw (.fieldLinkNest RX1 96 "SummitTime$Day" "clockOn" "I" "SummitTime") U ∧ va_Nw (.fieldLinkNest RX3 35 "SummitTime$Day" "starts" "[I" "SummitTime") U ∧ va_Nw (.fieldLinkNest RX3 38 "SummitTime$Day" "lands" "[J" "SummitTime") U ∧ va_Nw (.fieldLinkNest RX3 39 "SummitTime$Day" "ropes" "I" "SummitTime") U ∧ va_Nw (.fieldLinkNest RX3 41 "SummitTime$Day" "clockOn" "I" "SummitTime") U ∧ va_Nw (.fieldLinkNest RX5 53 "SummitTime$Told" "clouds" "J" "SummitTime") U ∧ va_Nw (.fieldLinkNest RX5 74 "SummitTime$Told" "people" "I" "SummitTime") U ∧ va_Nw (.methodLinkNest RX5 77 yX7_span "SummitTime") U ∧ va_Nw (.methodLinkNest RX5 85 yX7_isWithin "SummitTime") U ∧ va_Nw (.fieldLinkNest RX7 135 "SummitTime$Day" "clockOn" "I" "SummitTime") U ∧ va_Nw (.fieldLinkNest RX7 148 "SummitTime$Told" "clouds" "J" "SummitTime") U ∧ va_Nw (.fieldLinkNest RX7 220 "SummitTime$Told" "people" "I" "SummitTime") U ∧ va_Nw (.fieldLinkNest RX7 261 "SummitTime$Day" "ropes" "I" "SummitTime") U ∧ True
theorem nE.calling {U : State} {g : JFrame} {mk : MethodId} {a : Array Value} (h : nE U) : nE (U.calling g mk a) := by
  obtain ⟨h0, h1, h2, h3, h4, h5, h6, h7, h8, h9, h10, h11, h12, h13, h14, h15, -⟩ := h
  exact ⟨va_Nw.same rfl rfl h0, va_Nw.same rfl rfl h1, va_Nw.same rfl rfl h2, va_Nw.same rfl rfl h3, va_Nw.same rfl rfl h4, va_Nw.same rfl rfl h5, va_Nw.same rfl rfl h6, va_Nw.same rfl rfl h7, va_Nw.same rfl rfl h8, va_Nw.same rfl rfl h9, va_Nw.same rfl rfl h10, va_Nw.same rfl rfl h11, va_Nw.same rfl rfl h12, va_Nw.same rfl rfl h13, va_Nw.same rfl rfl h14, va_Nw.same rfl rfl h15, trivial⟩
theorem nE.warm {s U : State} (hW : s.WarmedH U.vm) (h : nE s) : nE U := by
  obtain ⟨h0, h1, h2, h3, h4, h5, h6, h7, h8, h9, h10, h11, h12, h13, h14, h15, -⟩ := h
  exact ⟨va_Nw.warmM hW h0, va_Nw.warmF hW h1, va_Nw.warmF hW h2, va_Nw.warmF hW h3, va_Nw.warmF hW h4, va_Nw.warmF hW h5, va_Nw.warmF hW h6, va_Nw.warmF hW h7, va_Nw.warmF hW h8, va_Nw.warmF hW h9, va_Nw.warmM hW h10, va_Nw.warmM hW h11, va_Nw.warmF hW h12, va_Nw.warmF hW h13, va_Nw.warmF hW h14, va_Nw.warmF hW h15, trivial⟩
abbrev tyS (cI cL cZ : ClassId) : List (ClassId × FieldType) := [(cI, .int), (cL, .long), (cZ, .boolean)]
/-- a world stands: what a method of either side finds -/
def sR (D : va_G) (cI cL cZ : ClassId) (A : Nat → Prop) (ws : va_W) (U : State) : Prop := va_P D vwCl ws U.heap ∧ va_K D vwCl (tyS cI cL cZ) U ∧ va_D A ws ∧ nE U
theorem sR_fb {D : va_G} {cI cL cZ : ClassId} {A : Nat → Prop} {ws : va_W} {av : List Value} : FrameBlind (va_Pc av (sR D cI cL cZ A ws)) := fun a U g mk q => by
  obtain ⟨q0, qP, qK, qD, qE⟩ := q
  exact ⟨q0, qP, va_K.moved (u := U) (U := U.calling g mk a) (Vm.Alike.refl U.vm) qK, qD, qE.calling⟩
theorem sR_at {D : va_G} {cI cL cZ : ClassId} {A : Nat → Prop} {ws : va_W} {av : List Value} {s : State} {H : Heap} (hP : va_P D vwCl ws H) (hK : va_K D vwCl (tyS cI cL cZ) s) (hD : va_D A ws) (hE : nE s) : ∀ U : State, U.heap = H → s.WarmedH U.vm → va_Pc av (sR D cI cL cZ A ws) av.toArray U := fun U hU hW => ⟨rfl, by rw [hU]; exact hP, va_K.moved hW.alike hK, hD, hE.warm hW⟩
theorem pR_fb {av : List Value} : FrameBlind (va_Pc av (fun _ => True)) := fun _ _ _ _ q => q
theorem pR_at {av : List Value} {s : State} {H : Heap} : ∀ U : State, U.heap = H → s.WarmedH U.vm → va_Pc av (fun _ => True) av.toArray U := fun _ _ _ => ⟨rfl, trivial⟩
