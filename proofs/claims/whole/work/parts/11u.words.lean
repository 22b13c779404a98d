/-! words: letters against numbers to the base 27 -/
def encF (a : Nat → Nat) : Nat → Nat
  | 0 => 0
  | m + 1 => 27 * encF a m + a m
theorem encF_cong {a b : Nat → Nat} : ∀ {m : Nat}, (∀ i, i < m → a i = b i) → encF a m = encF b m
  | 0, _ => rfl
  | m + 1, h => by rw [encF, encF, encF_cong (fun i hi => h i (by omega)), h m (by omega)]
theorem encF_lt {a : Nat → Nat} : ∀ {m : Nat}, (∀ i, i < m → a i ≤ 26) → encF a m < 27 ^ m
  | 0, _ => Nat.zero_lt_one
  | m + 1, h => by
    have h1 := encF_lt (m := m) (fun i hi => h i (by omega))
    have h2 := h m (by omega)
    rw [encF, Nat.pow_succ]
    omega
theorem encF_inj {a b : Nat → Nat} : ∀ (m n : Nat), (∀ i, i < m → 1 ≤ a i ∧ a i ≤ 26) → (∀ i, i < n → 1 ≤ b i ∧ b i ≤ 26) → encF a m = encF b n → m = n ∧ ∀ i, i < m → a i = b i
  | 0, 0, _, _, _ => ⟨rfl, fun i h => absurd h (Nat.not_lt_zero i)⟩
  | 0, n + 1, _, hb, h => by
    have := hb n (by omega)
    rw [encF, encF] at h
    omega
  | m + 1, 0, ha, _, h => by
    have := ha m (by omega)
    rw [encF, encF] at h
    omega
  | m + 1, n + 1, ha, hb, h => by
    have h1 := ha m (by omega)
    have h2 := hb n (by omega)
    rw [encF, encF] at h
    have e : a m = b n := by omega
    obtain ⟨e3, e4⟩ := encF_inj m n (fun i hi => ha i (by omega)) (fun i hi => hb i (by omega)) (by omega)
    subst e3
    refine ⟨rfl, fun i hi => ?_⟩
    by_cases z : i = m
    · rw [z]
      exact e
    · exact e4 i (by omega)
def wN (i k : Nat) : Nat := ((bytS.getD i []).getD k 0).toNatClampNeg
def wL (i : Nat) : Nat := lenS.getD i 0
def wc (i : Nat) : Nat := encF (fun k => wN i k - 96) (wL i)
theorem w_all : ∀ i, i < 8 → (1 ≤ wL i ∧ wL i ≤ 7 ∧ 0 < wc i ∧ wc i < 27 ^ 7 ∧ ∀ k, k < wL i → ((bytS.getD i []).getD k 0 = nI (wN i k) ∧ 97 ≤ wN i k ∧ wN i k ≤ 122)) := by decide +kernel
theorem xla {tx : XTx} (h160 : tx.2.1 ≤ 160) (k : Nat) : f_X5_letterAt tx k = if k < tx.2.1 then tx.1 k else -1 := xla_of h160 tx.2.2.1 tx.2.2.2.1 tx.2.2.2.2.1 tx.2.2.2.2.2 k
theorem hand_iff (tx : XTx) (ix : Nat) : ∀ n k, (¬ L_X5_isAtHand_20 tx ix n k = 0 ↔ ∀ j, k ≤ j → j < k + n → f_X5_letterAt tx (tx.2.2.1 + j) = (bytS.getD ix []).getD j 0)
  | 0, k => by
    rw [L_X5_isAtHand_20]
    exact ⟨fun _ j h1 h2 => by omega, fun _ => by decide⟩
  | n + 1, k => by
    rw [L_X5_isAtHand_20]
    by_cases c : f_X5_letterAt tx (tx.2.2.1 + k) = (bytS.getD ix []).getD k 0
    · rw [if_pos c, hand_iff tx ix n (k + 1)]
      constructor
      · intro h j h1 h2
        by_cases e : j = k
        · rw [e]
          exact c
        · exact h j (by omega) (by omega)
      · intro h j h1 h2
        exact h j (by omega) (by omega)
    · rw [if_neg c]
      exact ⟨fun z => absurd nI_0 z, fun h => absurd (h k (Nat.le_refl k) (by omega)) c⟩
theorem word_loop {tx : XTx} {mt : MTx} (h : textR tx mt) {b e : Nat} (he : mt.2.2.1 = e) (hbe : b ≤ e) (haz : ∀ k, b ≤ k → k < e → azB tx k = true) : ∀ n i, i ≤ e - b → n + i = 9 → L_X8_wordOf_7 mt n (b + i) (lN (encF (fun j => cd tx (b + j) - 96) i)) = lN (encF (fun j => cd tx (b + j) - 96) (if e - b < 9 then e - b else 9))
  | 0, i, h1, h2 => by
    rw [L_X8_wordOf_7, ite_self]
    have : i = 9 := by omega
    subst this
    rw [if_neg (by omega)]
  | n + 1, i, h1, h2 => by
    rw [L_X8_wordOf_7, he]
    by_cases c : e ≤ b + i
    · have : i = e - b := by omega
      rw [if_pos c, if_pos (by omega), this]
    · rw [if_neg c]
      obtain ⟨k1, k2, k3⟩ := az_cd (haz (b + i) (by omega) (by omega))
      obtain ⟨e1, e2, e3⟩ := text_cd h k1
      have hs : (27 : Int64) * lN (encF (fun j => cd tx (b + j) - 96) i) + (mt.1 (b + i)).toInt64 - 97 + 1 = lN (encF (fun j => cd tx (b + j) - 96) (i + 1)) := by
        rw [e2, nI_l (by omega)]
        show lN 27 * lN _ + lN _ - lN 97 + lN 1 = _
        rw [lN_mul, lN_add, lN_sub (by omega), lN_add, encF]
        congr 1
        omega
      rw [hs]
      exact word_loop h he hbe haz n (i + 1) (by omega) (by omega)
theorem wordOf_1 {tx : XTx} {mt : MTx} (h : tkR tx mt) (a1 : tx.2.2.1 < tx.2.2.2.1) (a3 : mt.2.2.2.1 = nI 1) (a4 : ∀ k, tx.2.2.1 ≤ k → k < tx.2.2.2.1 → azB tx k = true) : f_X8_wordOf mt = lN (encF (fun j => cd tx (tx.2.2.1 + j) - 96) (if tx.2.2.2.1 - tx.2.2.1 < 9 then tx.2.2.2.1 - tx.2.2.1 else 9)) := by
  unfold f_X8_wordOf
  rw [if_pos a3, h.2.1, Nat.add_sub_cancel_left]
  exact word_loop h.1.1 h.1.2.1 (by omega) a4 9 0 (by omega) rfl
theorem wordOf_0 {mt : MTx} (a3 : ¬ mt.2.2.2.1 = nI 1) : f_X8_wordOf mt = lN 0 := by
  unfold f_X8_wordOf
  rw [if_neg a3]
  rfl
theorem atHand_iff {tx : XTx} {mt : MTx} (h : tkR tx mt) {i : Nat} (hi : i < 8) : ¬ f_X5_isAtHand tx i = 0 ↔ f_X8_wordOf mt = lN (wc i) := by
  obtain ⟨w1, w2, w3, w4, w5⟩ := w_all i hi
  have hL : tx.2.1 ≤ 160 := h.1.1.1
  have hle : tx.2.2.2.1 ≤ tx.2.1 := h.1.2.2.1
  have h27 : (27 : Nat) ^ 7 < 2 ^ 63 := by decide
  have h279 : (27 : Nat) ^ 9 < 2 ^ 63 := by decide
  have hbe : tx.2.2.1 ≤ tx.2.2.2.1 := by
    rcases h.2.2 with ⟨a1, a2, a3, a4⟩ | ⟨a1, a2, a3, a4⟩ | ⟨a1, a2, a3, a4, a5⟩ | ⟨a1, a2, a3, a4, a5⟩ <;> omega
  have key : ¬ f_X5_isAtHand tx i = 0 ↔ (tx.2.2.2.1 - tx.2.2.1 = wL i ∧ ∀ j, j < wL i → f_X5_letterAt tx (tx.2.2.1 + j) = nI (wN i j)) := by
    unfold f_X5_isAtHand
    rw [pk_sub hbe]
    by_cases c : tx.2.2.2.1 - tx.2.2.1 = wL i
    · rw [if_pos (show nI (tx.2.2.2.1 - tx.2.2.1) = nI (lenS.getD i 0) by rw [c]; rfl), hand_iff]
      constructor
      · intro z
        exact ⟨c, fun j hj => by rw [z j (Nat.zero_le j) (by show j < 0 + wL i; omega)]; exact (w5 j hj).1⟩
      · intro z j _ hj
        have hj : j < wL i := by
          have : j < 0 + wL i := hj
          omega
        rw [z.2 j hj]
        exact (w5 j hj).1.symm
    · rw [if_neg (show ¬ nI (tx.2.2.2.1 - tx.2.2.1) = nI (lenS.getD i 0) from fun z => c ((nI_eq (by omega) (by show wL i < 2 ^ 31; omega)).mp z))]
      exact ⟨fun z => absurd nI_0 z, fun z => absurd z.1 c⟩
  have hlet : ∀ j, f_X5_letterAt tx (tx.2.2.1 + j) = nI (wN i j) → j < wL i → (tx.2.2.1 + j < tx.2.1 ∧ cd tx (tx.2.2.1 + j) = wN i j) := by
    intro j hj hji
    rw [xla hL] at hj
    by_cases c : tx.2.2.1 + j < tx.2.1
    · rw [if_pos c, (text_cd h.1.1 c).1] at hj
      have := (text_cd h.1.1 c).2.2
      have := w5 j hji
      exact ⟨c, (nI_eq (by omega) (by omega)).mp hj⟩
    · rw [if_neg c] at hj
      have := w5 j hji
      exact absurd (show nI (wN i j) < 0 by rw [← hj]; decide) (nI_pos (by omega))
  rw [key]
  constructor
  · rintro ⟨z1, z2⟩
    have haz : azB tx tx.2.2.1 = true := by
      obtain ⟨q1, q2⟩ := hlet 0 (z2 0 (by omega)) (by omega)
      have := w5 0 (by omega)
      rw [Nat.add_zero] at q1 q2
      unfold azB
      rw [decide_eq_true q1, decide_eq_true (by omega)]
      rfl
    rcases h.2.2 with ⟨a1, a2, a3, a4⟩ | ⟨a1, a2, a3, a4⟩ | ⟨a1, a2, a3, a4, a5⟩ | ⟨a1, a2, a3, a4, a5, a6⟩
    · have := (az_cd haz).1
      omega
    · rw [wordOf_1 h a1 a3 a4, z1, if_pos (by omega)]
      unfold wc
      congr 1
      exact encF_cong (fun j hj => by rw [(hlet j (z2 j hj) hj).2])
    · have := a4 tx.2.2.1 (Nat.le_refl _) a1
      rw [azdg tx _ haz] at this
      exact absurd this (by decide)
    · rw [haz] at a5
      exact absurd a5 (by decide)
  · intro z
    rcases h.2.2 with ⟨a1, a2, a3, a4⟩ | ⟨a1, a2, a3, a4⟩ | ⟨a1, a2, a3, a4, a5⟩ | ⟨a1, a2, a3, a4, a5, a6⟩
    · rw [wordOf_0 (by rw [a3]; decide), pk_lEQ (by decide) (by omega)] at z
      omega
    · rw [wordOf_1 h a1 a3 a4] at z
      have hr : ∀ m, m ≤ tx.2.2.2.1 - tx.2.2.1 → ∀ j, j < m → 1 ≤ cd tx (tx.2.2.1 + j) - 96 ∧ cd tx (tx.2.2.1 + j) - 96 ≤ 26 := by
        intro m hm j hj
        have := az_cd (a4 (tx.2.2.1 + j) (by omega) (by omega))
        omega
      by_cases c : tx.2.2.2.1 - tx.2.2.1 < 9
      · rw [if_pos c] at z
        have hlt := encF_lt (fun j hj => (hr (tx.2.2.2.1 - tx.2.2.1) (Nat.le_refl _) j hj).2)
        have hp : 27 ^ (tx.2.2.2.1 - tx.2.2.1) ≤ 27 ^ 9 := Nat.pow_le_pow_right (by decide) (by omega)
        rw [pk_lEQ (by omega) (by omega)] at z
        obtain ⟨y1, y2⟩ := encF_inj _ _ (hr _ (Nat.le_refl _)) (fun j hj => by have := w5 j hj; omega) z
        refine ⟨y1, fun j hj => ?_⟩
        have y3 := y2 j (by omega)
        have y4 := az_cd (a4 (tx.2.2.1 + j) (by omega) (by omega))
        have y5 := w5 j hj
        rw [xla hL, if_pos y4.1, (text_cd h.1.1 y4.1).1]
        congr 1
        omega
      · rw [if_neg c] at z
        have hlt := encF_lt (fun j hj => (hr 9 (by omega) j hj).2)
        rw [pk_lEQ (by omega) (by omega)] at z
        obtain ⟨y1, y2⟩ := encF_inj _ _ (hr 9 (by omega)) (fun j hj => by have := w5 j hj; omega) z
        omega
    · rw [wordOf_0 (by rw [a3]; decide), pk_lEQ (by decide) (by omega)] at z
      omega
    · rw [wordOf_0 (by rw [a3]; decide), pk_lEQ (by decide) (by omega)] at z
      omega
theorem sp_0 : f_X8_spelt (nI 99) (nI 108) (nI 105) (nI 109) (nI 98) (nI 101) (nI 114) = lN (wc 0) := by decide +kernel
theorem sp_1 : f_X8_spelt (nI 103) (nI 117) (nI 105) (nI 100) (nI 101) (nI 0) (nI 0) = lN (wc 1) := by decide +kernel
theorem sp_2 : f_X8_spelt (nI 109) (nI 111) (nI 117) (nI 114) (nI 110) (nI 101) (nI 114) = lN (wc 2) := by decide +kernel
theorem sp_3 : f_X8_spelt (nI 98) (nI 97) (nI 110) (nI 107) (nI 0) (nI 0) (nI 0) = lN (wc 3) := by decide +kernel
theorem sp_4 : f_X8_spelt (nI 100) (nI 101) (nI 101) (nI 100) (nI 0) (nI 0) (nI 0) = lN (wc 4) := by decide +kernel
theorem sp_5 : f_X8_spelt (nI 102) (nI 111) (nI 103) (nI 0) (nI 0) (nI 0) (nI 0) = lN (wc 5) := by decide +kernel
theorem sp_6 : f_X8_spelt (nI 99) (nI 108) (nI 101) (nI 97) (nI 114) (nI 0) (nI 0) = lN (wc 6) := by decide +kernel
theorem sp_7 : f_X8_spelt (nI 116) (nI 111) (nI 112) (nI 0) (nI 0) (nI 0) (nI 0) = lN (wc 7) := by decide +kernel
theorem wc_ne : ∀ i, i < 8 → ∀ j, j < 8 → i ≠ j → ¬ lN (wc i) = lN (wc j) := by decide +kernel
theorem at_z {tx : XTx} {mt : MTx} (h : tkR tx mt) {i : Nat} (hi : i < 8) (c : ¬ f_X8_wordOf mt = lN (wc i)) : f_X5_isAtHand tx i = 0 := Decidable.not_not.mp (fun z => c ((atHand_iff h hi).mp z))
/-- the word at hand on both sides -/
theorem words_eq {tx : XTx} {mt : MTx} (h : tkR tx mt) : (f_X5_wordAtHand tx = -1 ∧ f_X8_verb mt = -1) ∨ (∃ k, k < 4 ∧ f_X5_wordAtHand tx = nI k ∧ f_X8_verb mt = nI k) ∨ (f_X5_wordAtHand tx = nI 4 ∧ f_X8_verb mt = nI 5) ∨ (f_X5_wordAtHand tx = nI 5 ∧ f_X8_verb mt = nI 6) ∨ (f_X5_wordAtHand tx = nI 6 ∧ f_X8_verb mt = nI 7) ∨ (f_X5_wordAtHand tx = nI 7 ∧ f_X8_verb mt = nI 4) := by
  by_cases c0 : f_X8_wordOf mt = lN (wc 0)
  · have e1 : f_X5_wordAtHand tx = nI 0 := by
      have z0 := (atHand_iff h (i := 0) (by decide)).mpr c0
      rw [f_X5_wordAtHand, if_neg z0]
    have e2 : f_X8_verb mt = nI 0 := by
      rw [f_X8_verb, c0, sp_0, sp_1, sp_2, sp_3, sp_7, sp_4, sp_5, sp_6, if_pos ((lg_cmp_eq _ _).mpr rfl)]
    exact Or.inr (Or.inl ⟨0, by decide, e1, e2⟩)
  by_cases c1 : f_X8_wordOf mt = lN (wc 1)
  · have e1 : f_X5_wordAtHand tx = nI 1 := by
      have z0 := at_z h (i := 0) (by decide) c0
      have z1 := (atHand_iff h (i := 1) (by decide)).mpr c1
      rw [f_X5_wordAtHand, if_pos z0, if_neg z1]
    have e2 : f_X8_verb mt = nI 1 := by
      rw [f_X8_verb, c1, sp_0, sp_1, sp_2, sp_3, sp_7, sp_4, sp_5, sp_6, if_neg (fun z => wc_ne 1 (by decide) 0 (by decide) (by decide) ((lg_cmp_eq _ _).mp z)), if_pos ((lg_cmp_eq _ _).mpr rfl)]
    exact Or.inr (Or.inl ⟨1, by decide, e1, e2⟩)
  by_cases c2 : f_X8_wordOf mt = lN (wc 2)
  · have e1 : f_X5_wordAtHand tx = nI 2 := by
      have z0 := at_z h (i := 0) (by decide) c0
      have z1 := at_z h (i := 1) (by decide) c1
      have z2 := (atHand_iff h (i := 2) (by decide)).mpr c2
      rw [f_X5_wordAtHand, if_pos z0, if_pos z1, if_neg z2]
    have e2 : f_X8_verb mt = nI 2 := by
      rw [f_X8_verb, c2, sp_0, sp_1, sp_2, sp_3, sp_7, sp_4, sp_5, sp_6, if_neg (fun z => wc_ne 2 (by decide) 0 (by decide) (by decide) ((lg_cmp_eq _ _).mp z)), if_neg (fun z => wc_ne 2 (by decide) 1 (by decide) (by decide) ((lg_cmp_eq _ _).mp z)), if_pos ((lg_cmp_eq _ _).mpr rfl)]
    exact Or.inr (Or.inl ⟨2, by decide, e1, e2⟩)
  by_cases c3 : f_X8_wordOf mt = lN (wc 3)
  · have e1 : f_X5_wordAtHand tx = nI 3 := by
      have z0 := at_z h (i := 0) (by decide) c0
      have z1 := at_z h (i := 1) (by decide) c1
      have z2 := at_z h (i := 2) (by decide) c2
      have z3 := (atHand_iff h (i := 3) (by decide)).mpr c3
      rw [f_X5_wordAtHand, if_pos z0, if_pos z1, if_pos z2, if_neg z3]
    have e2 : f_X8_verb mt = nI 3 := by
      rw [f_X8_verb, c3, sp_0, sp_1, sp_2, sp_3, sp_7, sp_4, sp_5, sp_6, if_neg (fun z => wc_ne 3 (by decide) 0 (by decide) (by decide) ((lg_cmp_eq _ _).mp z)), if_neg (fun z => wc_ne 3 (by decide) 1 (by decide) (by decide) ((lg_cmp_eq _ _).mp z)), if_neg (fun z => wc_ne 3 (by decide) 2 (by decide) (by decide) ((lg_cmp_eq _ _).mp z)), if_pos ((lg_cmp_eq _ _).mpr rfl)]
    exact Or.inr (Or.inl ⟨3, by decide, e1, e2⟩)
  by_cases c4 : f_X8_wordOf mt = lN (wc 4)
  · have e1 : f_X5_wordAtHand tx = nI 4 := by
      have z0 := at_z h (i := 0) (by decide) c0
      have z1 := at_z h (i := 1) (by decide) c1
      have z2 := at_z h (i := 2) (by decide) c2
      have z3 := at_z h (i := 3) (by decide) c3
      have z4 := (atHand_iff h (i := 4) (by decide)).mpr c4
      rw [f_X5_wordAtHand, if_pos z0, if_pos z1, if_pos z2, if_pos z3, if_neg z4]
    have e2 : f_X8_verb mt = nI 5 := by
      rw [f_X8_verb, c4, sp_0, sp_1, sp_2, sp_3, sp_7, sp_4, sp_5, sp_6, if_neg (fun z => wc_ne 4 (by decide) 0 (by decide) (by decide) ((lg_cmp_eq _ _).mp z)), if_neg (fun z => wc_ne 4 (by decide) 1 (by decide) (by decide) ((lg_cmp_eq _ _).mp z)), if_neg (fun z => wc_ne 4 (by decide) 2 (by decide) (by decide) ((lg_cmp_eq _ _).mp z)), if_neg (fun z => wc_ne 4 (by decide) 3 (by decide) (by decide) ((lg_cmp_eq _ _).mp z)), if_neg (fun z => wc_ne 4 (by decide) 7 (by decide) (by decide) ((lg_cmp_eq _ _).mp z)), if_pos ((lg_cmp_eq _ _).mpr rfl)]
    exact Or.inr (Or.inr (Or.inl ⟨e1, e2⟩))
  by_cases c5 : f_X8_wordOf mt = lN (wc 5)
  · have e1 : f_X5_wordAtHand tx = nI 5 := by
      have z0 := at_z h (i := 0) (by decide) c0
      have z1 := at_z h (i := 1) (by decide) c1
      have z2 := at_z h (i := 2) (by decide) c2
      have z3 := at_z h (i := 3) (by decide) c3
      have z4 := at_z h (i := 4) (by decide) c4
      have z5 := (atHand_iff h (i := 5) (by decide)).mpr c5
      rw [f_X5_wordAtHand, if_pos z0, if_pos z1, if_pos z2, if_pos z3, if_pos z4, if_neg z5]
    have e2 : f_X8_verb mt = nI 6 := by
      rw [f_X8_verb, c5, sp_0, sp_1, sp_2, sp_3, sp_7, sp_4, sp_5, sp_6, if_neg (fun z => wc_ne 5 (by decide) 0 (by decide) (by decide) ((lg_cmp_eq _ _).mp z)), if_neg (fun z => wc_ne 5 (by decide) 1 (by decide) (by decide) ((lg_cmp_eq _ _).mp z)), if_neg (fun z => wc_ne 5 (by decide) 2 (by decide) (by decide) ((lg_cmp_eq _ _).mp z)), if_neg (fun z => wc_ne 5 (by decide) 3 (by decide) (by decide) ((lg_cmp_eq _ _).mp z)), if_neg (fun z => wc_ne 5 (by decide) 7 (by decide) (by decide) ((lg_cmp_eq _ _).mp z)), if_neg (fun z => wc_ne 5 (by decide) 4 (by decide) (by decide) ((lg_cmp_eq _ _).mp z)), if_pos ((lg_cmp_eq _ _).mpr rfl)]
    exact Or.inr (Or.inr (Or.inr (Or.inl ⟨e1, e2⟩)))
  by_cases c6 : f_X8_wordOf mt = lN (wc 6)
  · have e1 : f_X5_wordAtHand tx = nI 6 := by
      have z0 := at_z h (i := 0) (by decide) c0
      have z1 := at_z h (i := 1) (by decide) c1
      have z2 := at_z h (i := 2) (by decide) c2
      have z3 := at_z h (i := 3) (by decide) c3
      have z4 := at_z h (i := 4) (by decide) c4
      have z5 := at_z h (i := 5) (by decide) c5
      have z6 := (atHand_iff h (i := 6) (by decide)).mpr c6
      rw [f_X5_wordAtHand, if_pos z0, if_pos z1, if_pos z2, if_pos z3, if_pos z4, if_pos z5, if_neg z6]
    have e2 : f_X8_verb mt = nI 7 := by
      rw [f_X8_verb, c6, sp_0, sp_1, sp_2, sp_3, sp_7, sp_4, sp_5, sp_6, if_neg (fun z => wc_ne 6 (by decide) 0 (by decide) (by decide) ((lg_cmp_eq _ _).mp z)), if_neg (fun z => wc_ne 6 (by decide) 1 (by decide) (by decide) ((lg_cmp_eq _ _).mp z)), if_neg (fun z => wc_ne 6 (by decide) 2 (by decide) (by decide) ((lg_cmp_eq _ _).mp z)), if_neg (fun z => wc_ne 6 (by decide) 3 (by decide) (by decide) ((lg_cmp_eq _ _).mp z)), if_neg (fun z => wc_ne 6 (by decide) 7 (by decide) (by decide) ((lg_cmp_eq _ _).mp z)), if_neg (fun z => wc_ne 6 (by decide) 4 (by decide) (by decide) ((lg_cmp_eq _ _).mp z)), if_neg (fun z => wc_ne 6 (by decide) 5 (by decide) (by decide) ((lg_cmp_eq _ _).mp z)), if_pos ((lg_cmp_eq _ _).mpr rfl)]
    exact Or.inr (Or.inr (Or.inr (Or.inr (Or.inl ⟨e1, e2⟩))))
  by_cases c7 : f_X8_wordOf mt = lN (wc 7)
  · have e1 : f_X5_wordAtHand tx = nI 7 := by
      have z0 := at_z h (i := 0) (by decide) c0
      have z1 := at_z h (i := 1) (by decide) c1
      have z2 := at_z h (i := 2) (by decide) c2
      have z3 := at_z h (i := 3) (by decide) c3
      have z4 := at_z h (i := 4) (by decide) c4
      have z5 := at_z h (i := 5) (by decide) c5
      have z6 := at_z h (i := 6) (by decide) c6
      have z7 := (atHand_iff h (i := 7) (by decide)).mpr c7
      rw [f_X5_wordAtHand, if_pos z0, if_pos z1, if_pos z2, if_pos z3, if_pos z4, if_pos z5, if_pos z6, if_neg z7]
    have e2 : f_X8_verb mt = nI 4 := by
      rw [f_X8_verb, c7, sp_0, sp_1, sp_2, sp_3, sp_7, sp_4, sp_5, sp_6, if_neg (fun z => wc_ne 7 (by decide) 0 (by decide) (by decide) ((lg_cmp_eq _ _).mp z)), if_neg (fun z => wc_ne 7 (by decide) 1 (by decide) (by decide) ((lg_cmp_eq _ _).mp z)), if_neg (fun z => wc_ne 7 (by decide) 2 (by decide) (by decide) ((lg_cmp_eq _ _).mp z)), if_neg (fun z => wc_ne 7 (by decide) 3 (by decide) (by decide) ((lg_cmp_eq _ _).mp z)), if_pos ((lg_cmp_eq _ _).mpr rfl)]
    exact Or.inr (Or.inr (Or.inr (Or.inr (Or.inr ⟨e1, e2⟩))))
  refine Or.inl ⟨?_, ?_⟩
  · have z0 := at_z h (i := 0) (by decide) c0
    have z1 := at_z h (i := 1) (by decide) c1
    have z2 := at_z h (i := 2) (by decide) c2
    have z3 := at_z h (i := 3) (by decide) c3
    have z4 := at_z h (i := 4) (by decide) c4
    have z5 := at_z h (i := 5) (by decide) c5
    have z6 := at_z h (i := 6) (by decide) c6
    have z7 := at_z h (i := 7) (by decide) c7
    rw [f_X5_wordAtHand, if_pos z0, if_pos z1, if_pos z2, if_pos z3, if_pos z4, if_pos z5, if_pos z6, if_pos z7]
  · rw [f_X8_verb, sp_0, sp_1, sp_2, sp_3, sp_7, sp_4, sp_5, sp_6, if_neg (fun z => c0 ((lg_cmp_eq _ _).mp z)), if_neg (fun z => c1 ((lg_cmp_eq _ _).mp z)), if_neg (fun z => c2 ((lg_cmp_eq _ _).mp z)), if_neg (fun z => c3 ((lg_cmp_eq _ _).mp z)), if_neg (fun z => c7 ((lg_cmp_eq _ _).mp z)), if_neg (fun z => c4 ((lg_cmp_eq _ _).mp z)), if_neg (fun z => c5 ((lg_cmp_eq _ _).mp z)), if_neg (fun z => c6 ((lg_cmp_eq _ _).mp z))]
