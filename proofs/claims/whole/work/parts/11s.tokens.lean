/-! tokens: the class's step() against the model's nextToken() -/
def rn (q : Nat → Bool) : Nat → Nat → Nat
  | 0, w => w
  | n + 1, w => if q w = true then rn q n (w + 1) else w
theorem rn_fuel {q : Nat → Bool} {L : Nat} (hq : ∀ k, L ≤ k → q k = false) : ∀ (n m w : Nat), L ≤ w + n → L ≤ w + m → rn q n w = rn q m w
  | 0, 0, w, _, _ => rfl
  | 0, m + 1, w, h, _ => by rw [rn, rn, hq w (by omega), if_neg (by decide)]
  | n + 1, 0, w, _, h => by rw [rn, rn, hq w (by omega), if_neg (by decide)]
  | n + 1, m + 1, w, h1, h2 => by
    rw [rn, rn]
    by_cases c : q w = true
    · rw [if_pos c, if_pos c]
      exact rn_fuel hq n m (w + 1) (by omega) (by omega)
    · rw [if_neg c, if_neg c]
theorem rn_in {q : Nat → Bool} {L : Nat} (hq : ∀ k, L ≤ k → q k = false) : ∀ (n w : Nat), w ≤ L → w ≤ rn q n w ∧ rn q n w ≤ L ∧ ∀ k, w ≤ k → k < rn q n w → q k = true
  | 0, w, h => ⟨Nat.le_refl w, h, fun k h1 h2 => by rw [rn] at h2; omega⟩
  | n + 1, w, h => by
    rw [rn]
    by_cases c : q w = true
    · rw [if_pos c]
      have hw : w < L := Nat.lt_of_not_le (fun z => by rw [hq w z] at c; exact absurd c (by decide))
      obtain ⟨h1, h2, h3⟩ := rn_in hq n (w + 1) hw
      refine ⟨by omega, h2, fun k h4 h5 => ?_⟩
      by_cases e : k = w
      · rw [e]
        exact c
      · exact h3 k (by omega) h5
    · rw [if_neg c]
      exact ⟨Nat.le_refl w, h, fun k h1 h2 => by omega⟩
theorem rn_stop {q : Nat → Bool} {L : Nat} (hq : ∀ k, L ≤ k → q k = false) : ∀ (n w : Nat), L ≤ w + n → q (rn q n w) = false
  | 0, w, h => hq w (by omega)
  | n + 1, w, h => by
    rw [rn]
    by_cases c : q w = true
    · rw [if_pos c]
      exact rn_stop hq n (w + 1) (by omega)
    · rw [if_neg c]
      exact Bool.not_eq_true _ |>.mp c
def cd (tx : XTx) (k : Nat) : Nat := (tx.1 k).toNatClampNeg
def blB (tx : XTx) (k : Nat) : Bool := decide (k < tx.2.1) && decide (cd tx k = 32)
def azB (tx : XTx) (k : Nat) : Bool := decide (k < tx.2.1) && decide (97 ≤ cd tx k ∧ cd tx k ≤ 122)
def dgB (tx : XTx) (k : Nat) : Bool := decide (k < tx.2.1) && decide (48 ≤ cd tx k ∧ cd tx k ≤ 57)
theorem blB_z (tx : XTx) (k : Nat) (h : tx.2.1 ≤ k) : blB tx k = false := by
  unfold blB
  rw [decide_eq_false (by omega), Bool.false_and]
theorem azB_z (tx : XTx) (k : Nat) (h : tx.2.1 ≤ k) : azB tx k = false := by
  unfold azB
  rw [decide_eq_false (by omega), Bool.false_and]
theorem dgB_z (tx : XTx) (k : Nat) (h : tx.2.1 ≤ k) : dgB tx k = false := by
  unfold dgB
  rw [decide_eq_false (by omega), Bool.false_and]
theorem sort_num : ∀ c, c < 256 → f_X5_sortOf (nI c) = if 97 ≤ c ∧ c ≤ 122 then nI 1 else if 48 ≤ c ∧ c ≤ 57 then nI 2 else nI 3 := by decide +kernel
theorem az_num : ∀ c, c < 256 → (f_X8_in (nI c).toInt64 (97 : Int64) (122 : Int64) = 0 ↔ ¬ (97 ≤ c ∧ c ≤ 122)) := by decide +kernel
theorem dg_num : ∀ c, c < 256 → (f_X8_in (nI c).toInt64 (48 : Int64) (57 : Int64) = 0 ↔ ¬ (48 ≤ c ∧ c ≤ 57)) := by decide +kernel
/-- the same letters on both sides -/
theorem text_cd {tx : XTx} {mt : MTx} (h : textR tx mt) {k : Nat} (hk : k < tx.2.1) : tx.1 k = nI (cd tx k) ∧ mt.1 k = nI (cd tx k) ∧ cd tx k < 256 := by
  obtain ⟨a, b, c, d⟩ := h
  obtain ⟨e1, c, hc, e2⟩ := d k hk
  have : cd tx k = c := by
    unfold cd
    rw [e2]
    exact nI_clamp (by omega)
  rw [this, e1]
  exact ⟨e2, e2, by omega⟩
theorem xla_of {tx : XTx} (h160 : tx.2.1 ≤ 160) (x2 x3 : Nat) (x4 : Int32) (x5 k : Nat) : f_X5_letterAt (tx.1, tx.2.1, x2, x3, x4, x5) k = if k < tx.2.1 then tx.1 k else -1 := by
  unfold f_X5_letterAt
  (try dsimp only)
  by_cases h : k < tx.2.1
  · rw [if_pos h, if_neg (by omega), if_neg (by omega)]
  · rw [if_neg h, if_pos (by omega)]
theorem mla_of (mt : MTx) (x2 : Nat) (x3 x4 : Int32) (x5 x6 k : Nat) : f_X8_letterAt (mt.1, mt.2.1, x2, x3, x4, x5, x6) k = if k < mt.2.1 then mt.1 k else nI 0 := by
  unfold f_X8_letterAt
  (try dsimp only)
  by_cases h : k < mt.2.1
  · rw [if_pos h, if_neg (by omega)]
  · rw [if_neg h, if_pos (by omega)]
theorem x_blanks {tx : XTx} {mt : MTx} (h : textR tx mt) : ∀ n w, L_X5_step_8 tx n w = rn (blB tx) n w
  | 0, w => rfl
  | n + 1, w => by
    rw [L_X5_step_8, rn, xla_of h.1]
    by_cases c : w < tx.2.1
    · obtain ⟨e1, e2, e3⟩ := text_cd h c
      rw [if_neg (by omega), if_pos c, x_blanks h n (w + 1)]
      unfold blB
      rw [decide_eq_true c, Bool.true_and, e1]
      by_cases z : cd tx w = 32
      · rw [if_pos (by rw [z]), if_pos (decide_eq_true z)]
      · rw [if_neg (fun y => z ((nI_eq (by omega) (by decide)).mp y)), if_neg (by simp [z])]
    · rw [if_pos (by omega), blB_z tx w (by omega), if_neg (by decide)]
theorem m_blanks {tx : XTx} {mt : MTx} (h : textR tx mt) : ∀ n w, L_X8_nextToken_0 mt n w = rn (blB tx) n w
  | 0, w => rfl
  | n + 1, w => by
    rw [L_X8_nextToken_0, rn, mla_of, h.2.1]
    by_cases c : w < tx.2.1
    · obtain ⟨e1, e2, e3⟩ := text_cd h c
      rw [if_pos c, m_blanks h n (w + 1)]
      unfold blB
      rw [decide_eq_true c, Bool.true_and, e2]
      by_cases z : cd tx w = 32
      · rw [if_pos (by rw [z]), if_pos (decide_eq_true z)]
      · rw [if_neg (fun y => z ((nI_eq (by omega) (by decide)).mp y)), if_neg (by simp [z])]
    · rw [if_neg c, if_neg (by decide), blB_z tx w (by omega), if_neg (by decide)]
theorem x_sort {tx : XTx} {mt : MTx} (h : textR tx mt) (x2 x3 : Nat) (x4 : Int32) (x5 k : Nat) : f_X5_sortOf (f_X5_letterAt (tx.1, tx.2.1, x2, x3, x4, x5) k) = if k < tx.2.1 then (if azB tx k = true then nI 1 else if dgB tx k = true then nI 2 else nI 3) else nI 0 := by
  rw [xla_of h.1]
  by_cases c : k < tx.2.1
  · obtain ⟨e1, e2, e3⟩ := text_cd h c
    rw [if_pos c, if_pos c, e1, sort_num _ e3]
    unfold azB dgB
    rw [decide_eq_true c, Bool.true_and, Bool.true_and]
    simp only [decide_eq_true_eq]
  · rw [if_neg c, if_neg c]
    decide
theorem azdg (tx : XTx) (k : Nat) (h : azB tx k = true) : dgB tx k = false := by
  unfold azB at h
  unfold dgB
  simp only [Bool.and_eq_true, decide_eq_true_eq] at h
  rw [decide_eq_false (p := 48 ≤ cd tx k ∧ cd tx k ≤ 57) (by omega), Bool.and_false]
theorem x_run1 {tx : XTx} {mt : MTx} (h : textR tx mt) (T : Nat) : ∀ n w, L_X5_step_106 tx T (nI 1) n w = rn (azB tx) n w
  | 0, w => by
    rw [L_X5_step_106, ite_self]
    rfl
  | n + 1, w => by
    rw [L_X5_step_106, rn, if_neg (by decide), x_sort h]
    by_cases c : w < tx.2.1
    · rw [if_neg (by omega), if_pos c, x_run1 h T n (w + 1)]
      by_cases z : azB tx w = true
      · rw [if_pos z, if_pos rfl, if_pos z]
      · rw [if_neg z, if_neg z]
        by_cases y : dgB tx w = true
        · rw [if_pos y, if_neg (by decide)]
        · rw [if_neg y, if_neg (by decide)]
    · rw [if_pos (by omega), azB_z tx w (by omega), if_neg (by decide)]
theorem x_run2 {tx : XTx} {mt : MTx} (h : textR tx mt) (T : Nat) : ∀ n w, L_X5_step_106 tx T (nI 2) n w = rn (dgB tx) n w
  | 0, w => by
    rw [L_X5_step_106, ite_self]
    rfl
  | n + 1, w => by
    rw [L_X5_step_106, rn, if_neg (by decide), x_sort h]
    by_cases c : w < tx.2.1
    · rw [if_neg (by omega), if_pos c, x_run2 h T n (w + 1)]
      by_cases z : azB tx w = true
      · rw [if_pos z, if_neg (by decide), azdg tx w z, if_neg (by decide)]
      · rw [if_neg z]
        by_cases y : dgB tx w = true
        · rw [if_pos y, if_pos rfl, if_pos y]
        · rw [if_neg y, if_neg (by decide), if_neg y]
    · rw [if_pos (by omega), dgB_z tx w (by omega), if_neg (by decide)]
theorem x_run0 (tx : XTx) (T : Nat) {S : Int32} (hS : S = nI 0 ∨ S = nI 3) : ∀ n w, L_X5_step_106 tx T S n w = w
  | 0, w => by rw [L_X5_step_106, ite_self]
  | n + 1, w => by
    rw [L_X5_step_106, if_pos]
    rcases hS with rfl | rfl <;> decide
theorem m_az {tx : XTx} {mt : MTx} (h : textR tx mt) (x2 : Nat) (x3 x4 : Int32) (x5 x6 k : Nat) : f_X8_in (f_X8_letterAt (mt.1, mt.2.1, x2, x3, x4, x5, x6) k).toInt64 (97 : Int64) (122 : Int64) = 0 ↔ azB tx k = false := by
  rw [mla_of, h.2.1]
  unfold azB
  by_cases c : k < tx.2.1
  · obtain ⟨e1, e2, e3⟩ := text_cd h c
    rw [if_pos c, decide_eq_true c, Bool.true_and, e2, az_num _ e3, decide_eq_false_iff_not]
  · rw [if_neg c, decide_eq_false c, Bool.false_and]
    exact ⟨fun _ => rfl, fun _ => by decide +kernel⟩
theorem m_dg {tx : XTx} {mt : MTx} (h : textR tx mt) (x2 : Nat) (x3 x4 : Int32) (x5 x6 k : Nat) : f_X8_in (f_X8_letterAt (mt.1, mt.2.1, x2, x3, x4, x5, x6) k).toInt64 (48 : Int64) (57 : Int64) = 0 ↔ dgB tx k = false := by
  rw [mla_of, h.2.1]
  unfold dgB
  by_cases c : k < tx.2.1
  · obtain ⟨e1, e2, e3⟩ := text_cd h c
    rw [if_pos c, decide_eq_true c, Bool.true_and, e2, dg_num _ e3, decide_eq_false_iff_not]
  · rw [if_neg c, decide_eq_false c, Bool.false_and]
    exact ⟨fun _ => rfl, fun _ => by decide +kernel⟩
theorem m_run1 {tx : XTx} {mt : MTx} (h : textR tx mt) (T : Nat) : ∀ n w, L_X8_nextToken_59 mt T n w (nI 1) = (rn (azB tx) n w, nI 1)
  | 0, w => by
    rw [L_X8_nextToken_59, ite_self]
    rfl
  | n + 1, w => by
    rw [L_X8_nextToken_59, rn, if_neg (by decide)]
    by_cases z : azB tx w = true
    · rw [if_pos z, if_neg (fun y => by rw [(m_az h _ _ _ _ _ _).mp y] at z; exact absurd z (by decide)), m_run1 h T n (w + 1)]
    · rw [if_neg z, if_pos ((m_az h _ _ _ _ _ _).mpr (Bool.not_eq_true _ |>.mp z))]
theorem m_run3 (mt : MTx) (T : Nat) : ∀ n w, L_X8_nextToken_59 mt T n w (nI 3) = (w, nI 3)
  | 0, w => by rw [L_X8_nextToken_59, ite_self]
  | n + 1, w => by rw [L_X8_nextToken_59, if_pos (by decide)]
theorem m_word {tx : XTx} {mt : MTx} (h : textR tx mt) (T : Nat) {n w : Nat} (hz : azB tx w = true) : L_X8_nextToken_59 mt T (n + 1) w (nI 0) = (rn (azB tx) n (w + 1), nI 1) := by
  rw [L_X8_nextToken_59, if_neg (by decide), if_neg (fun y => by rw [(m_az h _ _ _ _ _ _).mp y] at hz; exact absurd hz (by decide)), m_run1 h]
theorem m_noword {tx : XTx} {mt : MTx} (h : textR tx mt) (T : Nat) {w : Nat} (hz : azB tx w = false) : ∀ n, L_X8_nextToken_59 mt T n w (nI 0) = (w, nI 0)
  | 0 => by rw [L_X8_nextToken_59, ite_self]
  | n + 1 => by rw [L_X8_nextToken_59, if_neg (by decide), if_pos ((m_az h _ _ _ _ _ _).mpr hz)]
theorem m_num1 (mt : MTx) (T : Nat) (v : Int32) : ∀ n w, L_X8_nextToken_106 mt T n w (nI 1) v = (w, nI 1, v)
  | 0, w => by rw [L_X8_nextToken_106, ite_self]
  | n + 1, w => by rw [L_X8_nextToken_106, if_pos rfl]
theorem m_nonum {tx : XTx} {mt : MTx} (h : textR tx mt) (T : Nat) {w : Nat} {t : Int32} (v : Int32) (ht : ¬ t = nI 1) (hz : dgB tx w = false) : ∀ n, L_X8_nextToken_106 mt T n w t v = (w, t, v)
  | 0 => by rw [L_X8_nextToken_106, ite_self]
  | n + 1 => by rw [L_X8_nextToken_106, if_neg ht, if_pos ((m_dg h _ _ _ _ _ _).mpr hz)]
theorem m_num {tx : XTx} {mt : MTx} (h : textR tx mt) (T : Nat) {n w : Nat} {t : Int32} (v : Int32) (ht : ¬ t = nI 1) (hz : dgB tx w = true) : L_X8_nextToken_106 mt T (n + 1) w t v = L_X8_nextToken_106 mt T n (w + 1) (nI 2) (if v ≤ nI 99 then (((nI 10) * v) + (mt.1 w)) - (nI 48) else v) := by
  rw [L_X8_nextToken_106, if_neg ht, if_neg (fun y => by rw [(m_dg h _ _ _ _ _ _).mp y] at hz; exact absurd hz (by decide))]
theorem m_run2 {tx : XTx} {mt : MTx} (h : textR tx mt) (T : Nat) : ∀ n w v, (L_X8_nextToken_106 mt T n w (nI 2) v).1 = rn (dgB tx) n w ∧ (L_X8_nextToken_106 mt T n w (nI 2) v).2.1 = nI 2
  | 0, w, v => by
    rw [L_X8_nextToken_106, ite_self]
    exact ⟨rfl, rfl⟩
  | n + 1, w, v => by
    rw [rn]
    by_cases z : dgB tx w = true
    · rw [if_pos z, m_num h T v (by decide) z]
      exact m_run2 h T n (w + 1) _
    · rw [if_neg z, m_nonum h T v (by decide) (Bool.not_eq_true _ |>.mp z)]
      exact ⟨rfl, rfl⟩
