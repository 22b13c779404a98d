/-! plain loops: sums and ors -/
theorem sm_front (f : Nat → Nat) (k n : Nat) : fb_sm (fun j => f (k + j)) (n + 1) = f k + fb_sm (fun j => f (k + 1 + j)) n := by
  rw [show n + 1 = 1 + n from Nat.add_comm n 1, fb_sm_split]
  have e : fb_sm (fun j => f (k + j)) 1 = f k := by
    rw [fb_sm_succ]
    show 0 + f (k + 0) = f k
    rw [Nat.zero_add, Nat.add_zero]
  rw [e]
  congr 1
  exact fb_sm_cong (fun j _ => by rw [Nat.add_assoc])
theorem sumL {F : Nat → Nat → Int32 → Int32} {g : Nat → Int32} (gN : Nat → Nat) (h0 : ∀ k x, F 0 k x = x) (hs : ∀ n k x, F (n + 1) k x = F n (k + 1) (x + g k)) : ∀ (n k : Nat) (x : Int32), (∀ j, k ≤ j → j < k + n → g j = nI (gN j)) → F n k x = x + nI (fb_sm (fun j => gN (k + j)) n)
  | 0, k, x, _ => by
    rw [h0]
    show x = x + nI 0
    rw [nI_0, Int32.add_zero]
  | n + 1, k, x, h => by
    rw [hs, sumL gN h0 hs n (k + 1) (x + g k) (fun j h1 h2 => h j (by omega) (by omega)), h k (Nat.le_refl k) (by omega), Int32.add_assoc, nI_add, sm_front]
/-- from nought on -/
theorem sumL0 {F : Nat → Nat → Int32 → Int32} {g : Nat → Int32} (gN : Nat → Nat) (h0 : ∀ k x, F 0 k x = x) (hs : ∀ n k x, F (n + 1) k x = F n (k + 1) (x + g k)) (n : Nat) (h : ∀ j, j < n → g j = nI (gN j)) : F n 0 (nI 0) = nI (fb_sm gN n) := by
  rw [sumL gN h0 hs n 0 (nI 0) (fun j _ h2 => h j (by omega)), nI_add, Nat.zero_add]
  congr 1
  exact fb_sm_cong (fun j _ => by rw [Nat.zero_add])
/-- whether any below n -/
def exB (p : Nat → Bool) : Nat → Bool
  | 0 => false
  | n + 1 => exB p n || p n
theorem exB_iff (p : Nat → Bool) : ∀ n, exB p n = true ↔ ∃ k, k < n ∧ p k = true
  | 0 => by
    simp [exB]
  | n + 1 => by
    rw [exB, Bool.or_eq_true, exB_iff p n]
    constructor
    · rintro (⟨k, h1, h2⟩ | h)
      · exact ⟨k, by omega, h2⟩
      · exact ⟨n, by omega, h⟩
    · rintro ⟨k, h1, h2⟩
      by_cases e : k = n
      · right
        rw [← e]
        exact h2
      · exact Or.inl ⟨k, by omega, h2⟩
theorem exB_cong {p q : Nat → Bool} : ∀ {n : Nat}, (∀ k, k < n → p k = q k) → exB p n = exB q n
  | 0, _ => rfl
  | n + 1, h => by rw [exB, exB, exB_cong (fun k hk => h k (by omega)), h n (by omega)]
theorem exB_front (p : Nat → Bool) (k : Nat) : ∀ n, exB (fun j => p (k + j)) (n + 1) = (p k || exB (fun j => p (k + 1 + j)) n)
  | 0 => by simp [exB]
  | n + 1 => by
    rw [exB, exB_front p k n, exB, Bool.or_assoc]
    congr 3
    omega
theorem orL {F : Nat → Nat → Int64 → Int64} {g : Nat → Int64} (h0 : ∀ k x, F 0 k x = x) (hs : ∀ n k x, F (n + 1) k x = F n (k + 1) (x ||| g k)) (i : Nat) : ∀ (n k : Nat) (x : Int64), bL (F n k x) i = (bL x i || exB (fun j => bL (g (k + j)) i) n)
  | 0, k, x => by
    rw [h0]
    simp [exB]
  | n + 1, k, x => by
    rw [hs, orL h0 hs i n (k + 1), bL_or, exB_front (fun j => bL (g j) i), Bool.or_assoc]
theorem orL0 {F : Nat → Nat → Int64 → Int64} {g : Nat → Int64} (h0 : ∀ k x, F 0 k x = x) (hs : ∀ n k x, F (n + 1) k x = F n (k + 1) (x ||| g k)) (i n : Nat) : bL (F n 0 0) i = exB (fun j => bL (g j) i) n := by
  rw [orL h0 hs, bL_0, Bool.false_or]
  exact exB_cong (fun j _ => by rw [Nat.zero_add])
theorem orI {F : Nat → Nat → Int32 → Int32} {g : Nat → Int32} (h0 : ∀ k x, F 0 k x = x) (hs : ∀ n k x, F (n + 1) k x = F n (k + 1) (x ||| g k)) (i : Nat) : ∀ (n k : Nat) (x : Int32), bI (F n k x) i = (bI x i || exB (fun j => bI (g (k + j)) i) n)
  | 0, k, x => by
    rw [h0]
    simp [exB]
  | n + 1, k, x => by
    rw [hs, orI h0 hs i n (k + 1), bI_or, exB_front (fun j => bI (g j) i), Bool.or_assoc]
theorem orI0 {F : Nat → Nat → Int32 → Int32} {g : Nat → Int32} (h0 : ∀ k x, F 0 k x = x) (hs : ∀ n k x, F (n + 1) k x = F n (k + 1) (x ||| g k)) (i n : Nat) : bI (F n 0 (nI 0)) i = exB (fun j => bI (g j) i) n := by
  rw [orI h0 hs, nI_0, bI_0, Bool.false_or]
  exact exB_cong (fun j _ => by rw [Nat.zero_add])
/-- two such loops with equal rows are equal -/
theorem loop_cong {α : Type} {F G : Nat → Nat → α → α} {f g : Nat → α → α} (hF0 : ∀ k x, F 0 k x = x) (hFs : ∀ n k x, F (n + 1) k x = F n (k + 1) (f k x)) (hG0 : ∀ k x, G 0 k x = x) (hGs : ∀ n k x, G (n + 1) k x = G n (k + 1) (g k x)) : ∀ (n k : Nat) (x : α), (∀ j y, k ≤ j → j < k + n → f j y = g j y) → F n k x = G n k x
  | 0, k, x, _ => by rw [hF0, hG0]
  | n + 1, k, x, h => by
    rw [hFs, hGs, h k x (Nat.le_refl k) (by omega)]
    exact loop_cong hF0 hFs hG0 hGs n (k + 1) (g k x) (fun j y h1 h2 => h j y (by omega) (by omega))
/-- rows written place by place -/
theorem fillL {F : Nat → Nat → (Nat → Int32) → (Nat → Int32)} {pl : Nat → Nat} {g : Nat → Int32} (h0 : ∀ k w, F 0 k w = w) (hs : ∀ n k w, F (n + 1) k w = F n (k + 1) (upd w (pl k) (g k))) : ∀ (n k : Nat) (w : Nat → Int32) (i : Nat), (∀ a b, pl a = pl b → a = b) → (∀ j, k ≤ j → j < k + n → i = pl j → F n k w i = g j) ∧ ((∀ j, k ≤ j → j < k + n → i ≠ pl j) → F n k w i = w i)
  | 0, k, w, i, _ => ⟨fun j h1 h2 => by omega, fun _ => by rw [h0]⟩
  | n + 1, k, w, i, hp => by
    have ih := fillL h0 hs n (k + 1) (upd w (pl k) (g k)) i hp
    rw [hs]
    refine ⟨fun j h1 h2 e => ?_, fun h => ?_⟩
    · by_cases e2 : j = k
      · rw [ih.2 (fun j' h3 _ e3 => by have := hp _ _ (e ▸ e3); omega)]
        subst e2
        subst e
        exact if_pos rfl
      · exact ih.1 j (by omega) (by omega) e
    · rw [ih.2 (fun j h1 h2 => h j (by omega) (by omega))]
      exact pk_un (h k (Nat.le_refl k) (by omega))
