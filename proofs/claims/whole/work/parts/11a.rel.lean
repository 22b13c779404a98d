/-! THE RELATION between the class's values and the model's -/
def bL (x : Int64) (i : Nat) : Bool := x.toBitVec.getLsbD i
def bI (x : Int32) (i : Nat) : Bool := x.toBitVec.getLsbD i
/-- whose the seconds are: rows of bits of P people against a row of owners -/
def ownR (P : Nat) (la : Nat → Int64) (ow : Nat → Int32) : Prop :=
  (∀ s, s < 60 → (ow s = -1 ∧ ∀ p, p < 6 → bL (la p) s = false) ∨ ∃ p, p < P ∧ ow s = nI p ∧ ∀ q, q < 6 → bL (la q) s = decide (q = p)) ∧ ∀ p, p < 6 → ∀ s, 60 ≤ s → bL (la p) s = false
/-- a day of the class against a row of 73 numbers -/
def dayR (P : Nat) (sta : Nat → Int32) (la : Nat → Int64) (ro ck : Int32) (w : Nat → Int32) : Prop :=
  ownR P la w ∧ (∀ p, p < 6 → w (60 + p) = sta p ∧ (sta p = -1 ∨ (p < P ∧ ∃ s, s < 60 ∧ sta p = nI s))) ∧ (∀ p, p < 6 → w (66 + p) = (if bI ro p then nI 1 else nI 0)) ∧ (∀ p, P ≤ p → bI ro p = false) ∧ w 72 = ck ∧ ∃ c, c ≤ 9 ∧ ck = nI c
/-- what texts told -/
def toldR (td : XTd) (to : Nat → Int32) : Prop :=
  td.2.2.2.2.2.1 ≤ 6 ∧ to 0 = nI td.2.2.2.2.2.1 ∧
  (∀ p, p < td.2.2.2.2.2.1 → (to (1 + p) = td.1 p ∧ to (7 + p) = td.2.1 p ∧ to (13 + p) = td.2.2.1 p ∧ to (19 + p) = td.2.2.2.1 p) ∧ (∃ k, k ≤ 3 ∧ td.1 p = nI k) ∧ (∃ k, 1 ≤ k ∧ k ≤ 20 ∧ td.2.1 p = nI k) ∧ (∃ k, 1 ≤ k ∧ k ≤ 6 ∧ td.2.2.1 p = nI k) ∧ ∃ k, k ≤ 20 ∧ td.2.2.2.1 p = nI k) ∧
  ownR td.2.2.2.2.2.1 td.2.2.2.2.1 (fun s => to (25 + s)) ∧
  (∀ s, s < 60 → to (85 + s) = (if bL td.2.2.2.2.2.2 s then nI 1 else nI 0)) ∧ ∀ s, 60 ≤ s → bL td.2.2.2.2.2.2 s = false
/-- the text -/
def textR (tx : XTx) (mt : MTx) : Prop := tx.2.1 ≤ 160 ∧ mt.2.1 = tx.2.1 ∧ mt.2.2.2.2.2.1 ≤ 160 ∧ ∀ k, k < tx.2.1 → mt.1 k = tx.1 k ∧ ∃ c, c ≤ 255 ∧ tx.1 k = nI c
/-- what can be undone: the oldest first in the model, a ring in the class -/
def undoR (P : Nat) (pn : Nat × Nat) (ps : XSh) (un : MUn) : Prop := pn.1 < 8 ∧ pn.2 ≤ 8 ∧ un.2 = pn.2 ∧ ∀ i, i < pn.2 → dayR P (fun p => ps.1 ((pn.1 + 8 - pn.2 + i) % 8 * 6 + p)) (fun p => ps.2.1 ((pn.1 + 8 - pn.2 + i) % 8 * 6 + p)) (ps.2.2.1 ((pn.1 + 8 - pn.2 + i) % 8)) (ps.2.2.2 ((pn.1 + 8 - pn.2 + i) % 8)) (fun j => un.1 (73 * i + j))
/-- what is kept -/
def keepR (P : Nat) (ks : XSh) (kb : Int32) (kp : MKp) : Prop := ∀ k, k < 2 → kp.1 k = (if bI kb k then nI 1 else nI 0) ∧ (bI kb k = true → dayR P (fun p => ks.1 (k * 6 + p)) (fun p => ks.2.1 (k * 6 + p)) (ks.2.2.1 k) (ks.2.2.2 k) (fun j => kp.2 (73 * k + j)))
/-- what was seen -/
def seenR (P : Nat) (si : XSi) (se : MUn) : Prop := si.2.2 ≤ 6 ∧ se.2 = si.2.2 ∧ ∀ i, i < si.2.2 → se.1 (2 * i) = si.1 i ∧ se.1 (2 * i + 1) = si.2.1 i ∧ ∃ p, p < P ∧ si.1 i = nI p
def rowR (rw : MKp) : Prop := ∀ j, j < 6 → (rw.1 j = nI (rw.1 j).toNatClampNeg ∧ (rw.1 j).toNatClampNeg < 6)
def Rel (tx : XTx) (td : XTd) (dy : XDy) (pn : Nat × Nat) (ps ks : XSh) (si : XSi) (kb : Int32) (to st : Nat → Int32) (mt : MTx) (un : MUn) (kp rw : MKp) (se : MUn) : Prop :=
  textR tx mt ∧ toldR td to ∧ dayR td.2.2.2.2.2.1 dy.1 dy.2.1 dy.2.2.1 dy.2.2.2 st ∧ undoR td.2.2.2.2.2.1 pn ps un ∧ keepR td.2.2.2.2.2.1 ks kb kp ∧ seenR td.2.2.2.2.2.1 si se ∧ rowR rw
/-! bits -/
theorem bL_and (x y : Int64) (i : Nat) : bL (x &&& y) i = (bL x i && bL y i) := by simp [bL]
theorem bL_or (x y : Int64) (i : Nat) : bL (x ||| y) i = (bL x i || bL y i) := by simp [bL]
theorem bL_xor (x y : Int64) (i : Nat) : bL (x ^^^ y) i = (bL x i ^^ bL y i) := by simp [bL]
theorem bL_0 (i : Nat) : bL 0 i = false := by simp [bL]
theorem bL_m1 {i : Nat} (h : i < 64) : bL (-1) i = true := by
  have : ∀ i, i < 64 → bL (-1) i = true := by decide +kernel
  exact this i h
theorem bL_big {x : Int64} {i : Nat} (h : 64 ≤ i) : bL x i = false := by unfold bL; exact BitVec.getLsbD_of_ge _ _ h
theorem bL_ext {x y : Int64} (h : ∀ i, i < 64 → bL x i = bL y i) : x = y := by
  apply Int64.toBitVec_inj.mp
  apply BitVec.eq_of_getLsbD_eq
  intro i hi
  exact h i hi
theorem bI_and (x y : Int32) (i : Nat) : bI (x &&& y) i = (bI x i && bI y i) := by simp [bI]
theorem bI_or (x y : Int32) (i : Nat) : bI (x ||| y) i = (bI x i || bI y i) := by simp [bI]
theorem bI_xor (x y : Int32) (i : Nat) : bI (x ^^^ y) i = (bI x i ^^ bI y i) := by simp [bI]
theorem bI_0 (i : Nat) : bI 0 i = false := by simp [bI]
theorem bI_ext {x y : Int32} (h : ∀ i, i < 32 → bI x i = bI y i) : x = y := by
  apply Int32.toBitVec_inj.mp
  apply BitVec.eq_of_getLsbD_eq
  intro i hi
  exact h i hi
/-- 1L << s -/
theorem bL_one : ∀ s, s < 64 → ∀ i, i < 64 → bL ((1 : Int64) <<< ((nI s).toInt64 &&& 63)) i = decide (i = s) := by decide +kernel
/-- 1 << p -/
theorem bI_one : ∀ p, p < 32 → ∀ i, i < 32 → bI (nI 1 <<< (nI p &&& 31)) i = decide (i = p) := by decide +kernel
theorem bL_ne0 {x : Int64} : x = 0 ↔ ∀ i, i < 64 → bL x i = false := ⟨fun h i _ => by rw [h]; exact bL_0 i, fun h => bL_ext (fun i hi => by rw [h i hi, bL_0])⟩
theorem bI_ne0 {x : Int32} : x = 0 ↔ ∀ i, i < 32 → bI x i = false := ⟨fun h i _ => by rw [h]; exact bI_0 i, fun h => bI_ext (fun i hi => by rw [h i hi, bI_0])⟩
