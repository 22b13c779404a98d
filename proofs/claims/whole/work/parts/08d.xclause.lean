theorem st_l {tx : XTx} (hl : tx.2.1 ≤ 160) (he : tx.2.2.2.1 ≤ tx.2.1) : (f_X5_step tx).2.1 ≤ 160 ∧ (f_X5_step tx).2.2.2.1 ≤ (f_X5_step tx).2.1 ∧ (f_X5_step tx).2.2.1 ≤ 160 := by
  have h := st_ok he
  have h1 := h.2.1
  have h2 := h.2.2.1
  have h3 := h.2.2.2.1
  omega
def txK (a b : XTx) : Prop := b.1 = a.1 ∧ b.2.1 = a.2.1 ∧ b.2.2.2.1 ≤ a.2.1 ∧ b.2.2.2.2.2 = a.2.2.2.2.2 ∧ b.2.2.1 ≤ a.2.1
theorem txK.tr {a b c : XTx} (h1 : txK a b) (h2 : txK b c) : txK a c := by
  obtain ⟨a1, a2, a3, a4, a5⟩ := h1
  obtain ⟨b1, b2, b3, b4, b5⟩ := h2
  exact ⟨b1.trans a1, b2.trans a2, by omega, b4.trans a4, by omega⟩
theorem txK.he {a b : XTx} (h : txK a b) : b.2.2.2.1 ≤ b.2.1 := by
  obtain ⟨a1, a2, a3, a4, a5⟩ := h
  omega
theorem txK.hl {a b : XTx} (h : txK a b) (hl : a.2.1 ≤ 160) : b.2.1 ≤ 160 := by
  obtain ⟨a1, a2, a3, a4, a5⟩ := h
  omega
theorem st_K {tx : XTx} (he : tx.2.2.2.1 ≤ tx.2.1) : txK tx (f_X5_step tx) := by
  have h := st_ok he
  exact ⟨h.1, h.2.1, h.2.2.2.1, h.2.2.2.2, Nat.le_trans h.2.2.1 h.2.2.2.1⟩
theorem rn_K {tx : XTx} {lo hi : Int32} (he : tx.2.2.2.1 ≤ tx.2.1) : txK tx (f_X5_readNumber tx lo hi).2 := by
  have h := rn_ok (lo := lo) (hi := hi) he
  exact ⟨h.1, h.2.1, h.2.2.2.1, h.2.2.2.2, Nat.le_trans h.2.2.1 h.2.2.2.1⟩
def drK (dr : XTd) : Prop := dr.2.2.2.2.2.1 ≤ 6
theorem xrp_K {tx : XTx} {dr : XTd} {ki : Int32} (he : tx.2.2.2.1 ≤ tx.2.1) (hd : drK dr) : drK (f_X5_readPerson tx dr ki).2.2 ∧ (f_X5_readPerson tx dr ki).2.1.2.1 = tx.2.1 ∧ (f_X5_readPerson tx dr ki).2.1.1 = tx.1 ∧ (f_X5_readPerson tx dr ki).2.1.2.2.2.2.2 = tx.2.2.2.2.2 ∧ (f_X5_readPerson tx dr ki).2.1.2.2.2.1 ≤ tx.2.1 := by
  have k1 : txK tx (f_X5_readNumber tx (nI 1) (nI 20)).2 := rn_K he
  have k2 : txK tx (f_X5_readNumber (f_X5_readNumber tx (nI 1) (nI 20)).2 (nI 1) (nI 6)).2 := k1.tr (rn_K k1.he)
  have k3 : txK tx (f_X5_readNumber (f_X5_readNumber (f_X5_readNumber tx (nI 1) (nI 20)).2 (nI 1) (nI 6)).2 (nI 0) (nI 20)).2 := k2.tr (rn_K k2.he)
  unfold f_X5_readPerson
  split
  · dsimp only
    exact ⟨hd, rfl, rfl, rfl, he⟩
  · split
    · dsimp only
      exact ⟨hd, k1.2.1, k1.1, k1.2.2.2.1, k1.2.2.1⟩
    · split
      · dsimp only
        exact ⟨hd, k2.2.1, k2.1, k2.2.2.2.1, k2.2.2.1⟩
      · split
        · dsimp only
          exact ⟨hd, k3.2.1, k3.1, k3.2.2.2.1, k3.2.2.1⟩
        · dsimp only
          refine ⟨?_, k3.2.1, k3.1, k3.2.2.2.1, k3.2.2.1⟩
          unfold drK f_X6_add
          (try dsimp only)
          split
          · rename_i c
            exact c
          · exact hd
theorem xrs_K {tx : XTx} {dr : XTd} {wo : Int32} (he : tx.2.2.2.1 ≤ tx.2.1) (hd : drK dr) : drK (f_X5_readSeconds tx dr wo).2.2 ∧ (f_X5_readSeconds tx dr wo).2.1.2.1 = tx.2.1 ∧ (f_X5_readSeconds tx dr wo).2.1.1 = tx.1 ∧ (f_X5_readSeconds tx dr wo).2.1.2.2.2.2.2 = tx.2.2.2.2.2 ∧ (f_X5_readSeconds tx dr wo).2.1.2.2.2.1 ≤ tx.2.1 := by
  have k1 : txK tx (f_X5_readNumber tx (nI 0) (nI dr.2.2.2.2.2.1 - nI 1)).2 := rn_K he
  have k2 : txK tx (f_X5_readNumber (f_X5_readNumber tx (nI 0) (nI dr.2.2.2.2.2.1 - nI 1)).2 (nI 0) (nI 59)).2 := k1.tr (rn_K k1.he)
  have k3 : txK tx (f_X5_readNumber (f_X5_readNumber (f_X5_readNumber tx (nI 0) (nI dr.2.2.2.2.2.1 - nI 1)).2 (nI 0) (nI 59)).2 (f_X5_readNumber (f_X5_readNumber tx (nI 0) (nI dr.2.2.2.2.2.1 - nI 1)).2 (nI 0) (nI 59)).1 (nI 59)).2 := k2.tr (rn_K k2.he)
  have m1 : txK tx (f_X5_readNumber tx (nI 0) (nI 59)).2 := rn_K he
  have m2 : txK tx (f_X5_readNumber (f_X5_readNumber tx (nI 0) (nI 59)).2 (f_X5_readNumber tx (nI 0) (nI 59)).1 (nI 59)).2 := m1.tr (rn_K m1.he)
  unfold f_X5_readSeconds
  split
  · split
    · dsimp only
      exact ⟨hd, k1.2.1, k1.1, k1.2.2.2.1, k1.2.2.1⟩
    · split
      · dsimp only
        exact ⟨hd, k2.2.1, k2.1, k2.2.2.2.1, k2.2.2.1⟩
      · split
        · dsimp only
          exact ⟨hd, k3.2.1, k3.1, k3.2.2.2.1, k3.2.2.1⟩
        · dsimp only
          exact ⟨hd, k3.2.1, k3.1, k3.2.2.2.1, k3.2.2.1⟩
  · split
    · dsimp only
      exact ⟨hd, m1.2.1, m1.1, m1.2.2.2.1, m1.2.2.1⟩
    · split
      · dsimp only
        exact ⟨hd, m2.2.1, m2.1, m2.2.2.2.1, m2.2.2.1⟩
      · dsimp only
        exact ⟨hd, m2.2.1, m2.1, m2.2.2.2.1, m2.2.2.1⟩
theorem sE1 {tx T : XTx} (e : T = f_X5_step tx) (hl : tx.2.1 ≤ 160) (he : tx.2.2.2.1 ≤ tx.2.1) : T.2.1 ≤ 160 ∧ T.2.2.2.1 ≤ T.2.1 ∧ T.2.2.1 ≤ 160 ∧ T.2.1 = tx.2.1 := by
  subst e
  have h := st_l hl he
  exact ⟨h.1, h.2.1, h.2.2, (st_ok he).2.1⟩
def f_X5_readClause (tx : XTx) (dr : XTd) : Int32 × XTx × XTd := (if (f_X5_wordAtHand (f_X5_step tx)) = nI 0 then ((f_X5_readPerson (f_X5_step tx) dr (f_X5_wordAtHand (f_X5_step tx))).1, (f_X5_readPerson (f_X5_step tx) dr (f_X5_wordAtHand (f_X5_step tx))).2.1, (f_X5_readPerson (f_X5_step tx) dr (f_X5_wordAtHand (f_X5_step tx))).2.2) else (if (f_X5_wordAtHand (f_X5_step tx)) = nI 1 then ((f_X5_readPerson (f_X5_step tx) dr (f_X5_wordAtHand (f_X5_step tx))).1, (f_X5_readPerson (f_X5_step tx) dr (f_X5_wordAtHand (f_X5_step tx))).2.1, (f_X5_readPerson (f_X5_step tx) dr (f_X5_wordAtHand (f_X5_step tx))).2.2) else (if (f_X5_wordAtHand (f_X5_step tx)) = nI 2 then ((f_X5_readPerson (f_X5_step tx) dr (f_X5_wordAtHand (f_X5_step tx))).1, (f_X5_readPerson (f_X5_step tx) dr (f_X5_wordAtHand (f_X5_step tx))).2.1, (f_X5_readPerson (f_X5_step tx) dr (f_X5_wordAtHand (f_X5_step tx))).2.2) else (if (f_X5_wordAtHand (f_X5_step tx)) = nI 3 then ((f_X5_readPerson (f_X5_step tx) dr (f_X5_wordAtHand (f_X5_step tx))).1, (f_X5_readPerson (f_X5_step tx) dr (f_X5_wordAtHand (f_X5_step tx))).2.1, (f_X5_readPerson (f_X5_step tx) dr (f_X5_wordAtHand (f_X5_step tx))).2.2) else (if (f_X5_wordAtHand (f_X5_step tx)) = nI 4 then ((f_X5_readSeconds (f_X5_step tx) dr (f_X5_wordAtHand (f_X5_step tx))).1, (f_X5_readSeconds (f_X5_step tx) dr (f_X5_wordAtHand (f_X5_step tx))).2.1, (f_X5_readSeconds (f_X5_step tx) dr (f_X5_wordAtHand (f_X5_step tx))).2.2) else (if (f_X5_wordAtHand (f_X5_step tx)) = nI 5 then ((f_X5_readSeconds (f_X5_step tx) dr (f_X5_wordAtHand (f_X5_step tx))).1, (f_X5_readSeconds (f_X5_step tx) dr (f_X5_wordAtHand (f_X5_step tx))).2.1, (f_X5_readSeconds (f_X5_step tx) dr (f_X5_wordAtHand (f_X5_step tx))).2.2) else (if (f_X5_wordAtHand (f_X5_step tx)) = nI 6 then (nI 1, (f_X5_step tx), (dr.1, dr.2.1, dr.2.2.1, dr.2.2.2.1, dr.2.2.2.2.1, dr.2.2.2.2.2.1, (0 : Int64))) else (if (f_X5_wordAtHand (f_X5_step tx)) = nI 7 then (nI 1, (f_X5_step tx), (f_X6_reset dr)) else (nI 0, (f_X5_step tx), dr)))))))))
theorem f_X5_readClause_b (tx : XTx) (dr : XTd) : (f_X5_readClause tx dr).1 = nI 0 ∨ (f_X5_readClause tx dr).1 = nI 1 := by
  unfold f_X5_readClause
  generalize f_X5_step tx = T1
  generalize f_X5_wordAtHand T1 = W
  split
  · exact f_X5_readPerson_b ..
  · split
    · exact f_X5_readPerson_b ..
    · split
      · exact f_X5_readPerson_b ..
      · split
        · exact f_X5_readPerson_b ..
        · split
          · exact f_X5_readSeconds_b ..
          · split
            · exact f_X5_readSeconds_b ..
            · split
              · exact Or.inr rfl
              · split
                · exact Or.inr rfl
                · exact Or.inl rfl
abbrev rm_X5_readClause : Room := { frames := 6, cells := 0, slots := 0, locals := 127 }
set_option maxHeartbeats 4000000 in
set_option maxRecDepth 100000 in
theorem c_X5_readClause (l : Launch) (D : va_G) (cI cL cZ : ClassId) (ad : Nat → Nat) (A : Nat → Prop) (adK adV : Nat → Nat) (tx : XTx) (td : XTd) (dr : XTd) (dy : XDy) (lb : (Nat → Int32)) (pn : (Nat × Nat)) (ps : XSh) (ks : XSh) (si : XSi) (kb : Int32)  (hl0 : tx.2.1 ≤ 160) (he0 : tx.2.2.2.1 ≤ tx.2.1) (hpe : dr.2.2.2.2.2.1 ≤ 6) : Met l yX5_readClause wsX5_readClause rm_X5_readClause (va_Pc [.ref (ad 1), .ref (ad 9)] (xS D cI cL cZ A adK adV (xW cI cL cZ ad tx td dr dy lb pn ps ks si kb))) (va_Qi (fun (r : Int32) (u : XTx × XTd) => r = (f_X5_readClause tx dr).1 ∧ u = (f_X5_readClause tx dr).2) (fun (u : XTx × XTd) t => va_P D vwCl (xW cI cL cZ ad u.1 td u.2 dy lb pn ps ks si kb) t.heap) A) 0 0 A := by
  refine Met.ofW (cc := cX5_readClause) (maxL := 3) (ret := (some .boolean)) (by decide) rfl ?_
  intro p e s m args below meth c s₁ B hml hv
  obtain ⟨rfl, ⟨hP, hK, hD, hE⟩, hSE, hSL⟩ := hv
  have hx := B.exec
  have hb := B.bytes
  have hr := B.returns
  have hts := atoms_spec (ws := wsX5_readClause) B.pre
  have hown : s.vm.findClass RX5 = some m.cls := findClass_of_methodNamed B.named
  have hlocks := B.notSynchronized
  have hS : va_S A s.heap s.heap [] := va_S.rf
  have hl := lv_entry ([.ref (ad 1), .ref (ad 9)]) (n := 3) (Nat.le_of_ble_eq_true rfl)
  rw [lg_entry_eq]
  generalize (lg_sl ([.ref (ad 1), .ref (ad 9)]) ++ List.replicate (3 - (lg_sl ([.ref (ad 1), .ref (ad 9)])).length) Slot.unset).toArray = ls at hl ⊢
  have hl : lv_has ls 3 [(0, .ref (ad 1)), (1, .ref (ad 9))] := hl
  refine lv_aload_n hx hb dX5_readClause_0 rfl (lv_at hl 0 rfl) ?_
  refine va_callv (va_runV (As := []) (rest := []) ⟨hx, hb, hml, hown, hts⟩ (c_X5_step l D cI cL cZ ad A tx td dr dy lb pn ps ks si kb  (by first | assumption | omega) (by first | assumption | omega)) (cwV 0 hts gX5_readClause_X5_step rfl rfl rfl (by decide +kernel) ⟨Nat.le_of_ble_eq_true rfl, Nat.le_of_ble_eq_true rfl⟩) ⟨sR_fb, va_recv hK hP (ci := 5) (q0 := 1) rfl rfl, sR_at hP hK hD hE⟩ rfl rfl hl.1 rfl (lv_room (Nat.le_of_ble_eq_true rfl)) dX5_readClause_1 ⟨Nat.zero_le _, Nat.zero_le _⟩) hS (fun q _ h => h) (fun q h => h) (fun T_1_1 t H locs ht hvm hT_1_1 hB hz1 hk1 hS => ?_)
  rw [ht] at hB
  have hP : va_P D vwCl (xW cI cL cZ ad T_1_1 td dr dy lb pn ps ks si kb) H := hB
  have hD : va_D A (xW cI cL cZ ad T_1_1 td dr dy lb pn ps ks si kb) := xW_D hD
  refine lv_aload_n hx hb dX5_readClause_4 rfl (lv_at hl 0 rfl) ?_
  refine vp_callSi (va_Run.run (va_runV (As := []) (rest := []) ⟨hx, hb, hml, hown, hts⟩ (c_X5_wordAtHand l D cI cL cZ ad A adK adV T_1_1 td dr dy lb pn ps ks si kb  (sE1 hT_1_1 hl0 he0).1 (sE1 hT_1_1 hl0 he0).2.2.1) (cwV 0 hts gX5_readClause_X5_wordAtHand rfl rfl rfl (by decide +kernel) ⟨Nat.le_of_ble_eq_true rfl, Nat.le_of_ble_eq_true rfl⟩) ⟨xS_fb, va_recv hK hP (ci := 5) (q0 := 1) rfl rfl, xS_at hP hK hD hE hSE hSL hS⟩ rfl rfl hl.1 rfl (lv_room (Nat.le_of_ble_eq_true rfl)) dX5_readClause_5 ⟨Nat.zero_le _, Nat.zero_le _⟩)) (fun r hr => ?_)
  subst hr
  refine lv_istore_n (lv' := [(2, .int (f_X5_wordAtHand T_1_1)), (0, .ref (ad 1)), (1, .ref (ad 9))]) hx hb dX5_readClause_8 rfl hl (by decide) rfl (fun ls hl => ?_)
  refine lv_iload_n hx hb dX5_readClause_9 rfl (lv_at hl 0 rfl) ?_
  by_cases c_1 : (f_X5_wordAtHand T_1_1) = nI 0
  · refine lv_tableIn (off := 46) (tgt := 56) hx hb dX5_readClause_10 (by rw [c_1]; decide) (by rw [c_1]; decide) (by rw [c_1]; decide) (by decide) ?_
    refine lv_aload_n hx hb dX5_readClause_56 rfl (lv_at hl 1 rfl) ?_
    refine lv_aload_n hx hb dX5_readClause_57 rfl (lv_at hl 2 rfl) ?_
    refine lv_iload_n hx hb dX5_readClause_58 rfl (lv_at hl 0 rfl) ?_
    refine va_calli (va_runV (As := [.ref (ad 9), .int (f_X5_wordAtHand T_1_1)]) (rest := []) ⟨hx, hb, hml, hown, hts⟩ (c_X5_readPerson l D cI cL cZ ad A T_1_1 td dr dy lb pn ps ks si kb (f_X5_wordAtHand T_1_1) (sE1 hT_1_1 hl0 he0).1 (sE1 hT_1_1 hl0 he0).2.1 hpe) (cwV 2 hts gX5_readClause_X5_readPerson rfl rfl rfl (by decide +kernel) ⟨Nat.le_of_ble_eq_true rfl, Nat.le_of_ble_eq_true rfl⟩) ⟨sR_fb, va_recv hK hP (ci := 5) (q0 := 1) rfl rfl, sR_at hP hK hD hE⟩ rfl rfl hl.1 rfl (lv_room (Nat.le_of_ble_eq_true rfl)) dX5_readClause_59 ⟨Nat.zero_le _, Nat.zero_le _⟩) hS (fun q _ h => h) (fun q h => h) (fun T_599999_2 T_59_2 t H locs ht hvm hw hB hz1 hk1 hS => ?_)
    obtain ⟨hT_599999_2, hT_59_2⟩ := hw
    rw [ht] at hB
    have hP : va_P D vwCl (xW cI cL cZ ad T_59_2.1 td T_59_2.2 dy lb pn ps ks si kb) H := hB
    have hD : va_D A (xW cI cL cZ ad T_59_2.1 td T_59_2.2 dy lb pn ps ks si kb) := xW_D hD
    have hf : (f_X5_readClause tx dr) = (T_599999_2, T_59_2.1, T_59_2.2) := by rw [f_X5_readClause]; (try rw [← hT_1_1]); (try rw [← hT_599999_2]); (try rw [← hT_59_2]); first | done | rw [if_pos c_1]
    have hf1 : T_599999_2 = (f_X5_readClause tx dr).1 := by rw [hf]
    have hf2 : (T_59_2.1, T_59_2.2) = (f_X5_readClause tx dr).2 := by rw [hf]
    exact W.zret (v := T_599999_2) (ty := .boolean) hx hb hr (nb_of (by rw [hT_599999_2]; exact (f_X5_readPerson_b ..))) (fun t ht hW => ⟨⟨T_599999_2, (T_59_2.1, T_59_2.2), rfl, ⟨hf1, hf2⟩, va_Pt ht hP⟩, hS.F ht⟩) hS.2.2 dX5_readClause_62
  · by_cases c_2 : (f_X5_wordAtHand T_1_1) = nI 1
    · refine lv_tableIn (off := 46) (tgt := 56) hx hb dX5_readClause_10 (by rw [c_2]; decide) (by rw [c_2]; decide) (by rw [c_2]; decide) (by decide) ?_
      refine lv_aload_n hx hb dX5_readClause_56 rfl (lv_at hl 1 rfl) ?_
      refine lv_aload_n hx hb dX5_readClause_57 rfl (lv_at hl 2 rfl) ?_
      refine lv_iload_n hx hb dX5_readClause_58 rfl (lv_at hl 0 rfl) ?_
      refine va_calli (va_runV (As := [.ref (ad 9), .int (f_X5_wordAtHand T_1_1)]) (rest := []) ⟨hx, hb, hml, hown, hts⟩ (c_X5_readPerson l D cI cL cZ ad A T_1_1 td dr dy lb pn ps ks si kb (f_X5_wordAtHand T_1_1) (sE1 hT_1_1 hl0 he0).1 (sE1 hT_1_1 hl0 he0).2.1 hpe) (cwV 2 hts gX5_readClause_X5_readPerson rfl rfl rfl (by decide +kernel) ⟨Nat.le_of_ble_eq_true rfl, Nat.le_of_ble_eq_true rfl⟩) ⟨sR_fb, va_recv hK hP (ci := 5) (q0 := 1) rfl rfl, sR_at hP hK hD hE⟩ rfl rfl hl.1 rfl (lv_room (Nat.le_of_ble_eq_true rfl)) dX5_readClause_59 ⟨Nat.zero_le _, Nat.zero_le _⟩) hS (fun q _ h => h) (fun q h => h) (fun T_599999_3 T_59_3 t H locs ht hvm hw hB hz1 hk1 hS => ?_)
      obtain ⟨hT_599999_3, hT_59_3⟩ := hw
      rw [ht] at hB
      have hP : va_P D vwCl (xW cI cL cZ ad T_59_3.1 td T_59_3.2 dy lb pn ps ks si kb) H := hB
      have hD : va_D A (xW cI cL cZ ad T_59_3.1 td T_59_3.2 dy lb pn ps ks si kb) := xW_D hD
      have hf : (f_X5_readClause tx dr) = (T_599999_3, T_59_3.1, T_59_3.2) := by rw [f_X5_readClause]; (try rw [← hT_1_1]); (try rw [← hT_599999_3]); (try rw [← hT_59_3]); first | done | rw [if_neg c_1, if_pos c_2]
      have hf1 : T_599999_3 = (f_X5_readClause tx dr).1 := by rw [hf]
      have hf2 : (T_59_3.1, T_59_3.2) = (f_X5_readClause tx dr).2 := by rw [hf]
      exact W.zret (v := T_599999_3) (ty := .boolean) hx hb hr (nb_of (by rw [hT_599999_3]; exact (f_X5_readPerson_b ..))) (fun t ht hW => ⟨⟨T_599999_3, (T_59_3.1, T_59_3.2), rfl, ⟨hf1, hf2⟩, va_Pt ht hP⟩, hS.F ht⟩) hS.2.2 dX5_readClause_62
    · by_cases c_3 : (f_X5_wordAtHand T_1_1) = nI 2
      · refine lv_tableIn (off := 46) (tgt := 56) hx hb dX5_readClause_10 (by rw [c_3]; decide) (by rw [c_3]; decide) (by rw [c_3]; decide) (by decide) ?_
        refine lv_aload_n hx hb dX5_readClause_56 rfl (lv_at hl 1 rfl) ?_
        refine lv_aload_n hx hb dX5_readClause_57 rfl (lv_at hl 2 rfl) ?_
        refine lv_iload_n hx hb dX5_readClause_58 rfl (lv_at hl 0 rfl) ?_
        refine va_calli (va_runV (As := [.ref (ad 9), .int (f_X5_wordAtHand T_1_1)]) (rest := []) ⟨hx, hb, hml, hown, hts⟩ (c_X5_readPerson l D cI cL cZ ad A T_1_1 td dr dy lb pn ps ks si kb (f_X5_wordAtHand T_1_1) (sE1 hT_1_1 hl0 he0).1 (sE1 hT_1_1 hl0 he0).2.1 hpe) (cwV 2 hts gX5_readClause_X5_readPerson rfl rfl rfl (by decide +kernel) ⟨Nat.le_of_ble_eq_true rfl, Nat.le_of_ble_eq_true rfl⟩) ⟨sR_fb, va_recv hK hP (ci := 5) (q0 := 1) rfl rfl, sR_at hP hK hD hE⟩ rfl rfl hl.1 rfl (lv_room (Nat.le_of_ble_eq_true rfl)) dX5_readClause_59 ⟨Nat.zero_le _, Nat.zero_le _⟩) hS (fun q _ h => h) (fun q h => h) (fun T_599999_4 T_59_4 t H locs ht hvm hw hB hz1 hk1 hS => ?_)
        obtain ⟨hT_599999_4, hT_59_4⟩ := hw
        rw [ht] at hB
        have hP : va_P D vwCl (xW cI cL cZ ad T_59_4.1 td T_59_4.2 dy lb pn ps ks si kb) H := hB
        have hD : va_D A (xW cI cL cZ ad T_59_4.1 td T_59_4.2 dy lb pn ps ks si kb) := xW_D hD
        have hf : (f_X5_readClause tx dr) = (T_599999_4, T_59_4.1, T_59_4.2) := by rw [f_X5_readClause]; (try rw [← hT_1_1]); (try rw [← hT_599999_4]); (try rw [← hT_59_4]); first | done | rw [if_neg c_1, if_neg c_2, if_pos c_3]
        have hf1 : T_599999_4 = (f_X5_readClause tx dr).1 := by rw [hf]
        have hf2 : (T_59_4.1, T_59_4.2) = (f_X5_readClause tx dr).2 := by rw [hf]
        exact W.zret (v := T_599999_4) (ty := .boolean) hx hb hr (nb_of (by rw [hT_599999_4]; exact (f_X5_readPerson_b ..))) (fun t ht hW => ⟨⟨T_599999_4, (T_59_4.1, T_59_4.2), rfl, ⟨hf1, hf2⟩, va_Pt ht hP⟩, hS.F ht⟩) hS.2.2 dX5_readClause_62
      · by_cases c_4 : (f_X5_wordAtHand T_1_1) = nI 3
        · refine lv_tableIn (off := 46) (tgt := 56) hx hb dX5_readClause_10 (by rw [c_4]; decide) (by rw [c_4]; decide) (by rw [c_4]; decide) (by decide) ?_
          refine lv_aload_n hx hb dX5_readClause_56 rfl (lv_at hl 1 rfl) ?_
          refine lv_aload_n hx hb dX5_readClause_57 rfl (lv_at hl 2 rfl) ?_
          refine lv_iload_n hx hb dX5_readClause_58 rfl (lv_at hl 0 rfl) ?_
          refine va_calli (va_runV (As := [.ref (ad 9), .int (f_X5_wordAtHand T_1_1)]) (rest := []) ⟨hx, hb, hml, hown, hts⟩ (c_X5_readPerson l D cI cL cZ ad A T_1_1 td dr dy lb pn ps ks si kb (f_X5_wordAtHand T_1_1) (sE1 hT_1_1 hl0 he0).1 (sE1 hT_1_1 hl0 he0).2.1 hpe) (cwV 2 hts gX5_readClause_X5_readPerson rfl rfl rfl (by decide +kernel) ⟨Nat.le_of_ble_eq_true rfl, Nat.le_of_ble_eq_true rfl⟩) ⟨sR_fb, va_recv hK hP (ci := 5) (q0 := 1) rfl rfl, sR_at hP hK hD hE⟩ rfl rfl hl.1 rfl (lv_room (Nat.le_of_ble_eq_true rfl)) dX5_readClause_59 ⟨Nat.zero_le _, Nat.zero_le _⟩) hS (fun q _ h => h) (fun q h => h) (fun T_599999_5 T_59_5 t H locs ht hvm hw hB hz1 hk1 hS => ?_)
          obtain ⟨hT_599999_5, hT_59_5⟩ := hw
          rw [ht] at hB
          have hP : va_P D vwCl (xW cI cL cZ ad T_59_5.1 td T_59_5.2 dy lb pn ps ks si kb) H := hB
          have hD : va_D A (xW cI cL cZ ad T_59_5.1 td T_59_5.2 dy lb pn ps ks si kb) := xW_D hD
          have hf : (f_X5_readClause tx dr) = (T_599999_5, T_59_5.1, T_59_5.2) := by rw [f_X5_readClause]; (try rw [← hT_1_1]); (try rw [← hT_599999_5]); (try rw [← hT_59_5]); first | done | rw [if_neg c_1, if_neg c_2, if_neg c_3, if_pos c_4]
          have hf1 : T_599999_5 = (f_X5_readClause tx dr).1 := by rw [hf]
          have hf2 : (T_59_5.1, T_59_5.2) = (f_X5_readClause tx dr).2 := by rw [hf]
          exact W.zret (v := T_599999_5) (ty := .boolean) hx hb hr (nb_of (by rw [hT_599999_5]; exact (f_X5_readPerson_b ..))) (fun t ht hW => ⟨⟨T_599999_5, (T_59_5.1, T_59_5.2), rfl, ⟨hf1, hf2⟩, va_Pt ht hP⟩, hS.F ht⟩) hS.2.2 dX5_readClause_62
        · by_cases c_5 : (f_X5_wordAtHand T_1_1) = nI 4
          · refine lv_tableIn (off := 53) (tgt := 63) hx hb dX5_readClause_10 (by rw [c_5]; decide) (by rw [c_5]; decide) (by rw [c_5]; decide) (by decide) ?_
            refine lv_aload_n hx hb dX5_readClause_63 rfl (lv_at hl 1 rfl) ?_
            refine lv_aload_n hx hb dX5_readClause_64 rfl (lv_at hl 2 rfl) ?_
            refine lv_iload_n hx hb dX5_readClause_65 rfl (lv_at hl 0 rfl) ?_
            refine va_calli (va_runV (As := [.ref (ad 9), .int (f_X5_wordAtHand T_1_1)]) (rest := []) ⟨hx, hb, hml, hown, hts⟩ (c_X5_readSeconds l D cI cL cZ ad A T_1_1 td dr dy lb pn ps ks si kb (f_X5_wordAtHand T_1_1) (sE1 hT_1_1 hl0 he0).1 (sE1 hT_1_1 hl0 he0).2.1 hpe) (cwV 2 hts gX5_readClause_X5_readSeconds rfl rfl rfl (by decide +kernel) ⟨Nat.le_of_ble_eq_true rfl, Nat.le_of_ble_eq_true rfl⟩) ⟨sR_fb, va_recv hK hP (ci := 5) (q0 := 1) rfl rfl, sR_at hP hK hD hE⟩ rfl rfl hl.1 rfl (lv_room (Nat.le_of_ble_eq_true rfl)) dX5_readClause_66 ⟨Nat.zero_le _, Nat.zero_le _⟩) hS (fun q _ h => h) (fun q h => h) (fun T_669999_6 T_66_6 t H locs ht hvm hw hB hz1 hk1 hS => ?_)
            obtain ⟨hT_669999_6, hT_66_6⟩ := hw
            rw [ht] at hB
            have hP : va_P D vwCl (xW cI cL cZ ad T_66_6.1 td T_66_6.2 dy lb pn ps ks si kb) H := hB
            have hD : va_D A (xW cI cL cZ ad T_66_6.1 td T_66_6.2 dy lb pn ps ks si kb) := xW_D hD
            have hf : (f_X5_readClause tx dr) = (T_669999_6, T_66_6.1, T_66_6.2) := by rw [f_X5_readClause]; (try rw [← hT_1_1]); (try rw [← hT_669999_6]); (try rw [← hT_66_6]); first | done | rw [if_neg c_1, if_neg c_2, if_neg c_3, if_neg c_4, if_pos c_5]
            have hf1 : T_669999_6 = (f_X5_readClause tx dr).1 := by rw [hf]
            have hf2 : (T_66_6.1, T_66_6.2) = (f_X5_readClause tx dr).2 := by rw [hf]
            exact W.zret (v := T_669999_6) (ty := .boolean) hx hb hr (nb_of (by rw [hT_669999_6]; exact (f_X5_readSeconds_b ..))) (fun t ht hW => ⟨⟨T_669999_6, (T_66_6.1, T_66_6.2), rfl, ⟨hf1, hf2⟩, va_Pt ht hP⟩, hS.F ht⟩) hS.2.2 dX5_readClause_69
          · by_cases c_6 : (f_X5_wordAtHand T_1_1) = nI 5
            · refine lv_tableIn (off := 53) (tgt := 63) hx hb dX5_readClause_10 (by rw [c_6]; decide) (by rw [c_6]; decide) (by rw [c_6]; decide) (by decide) ?_
              refine lv_aload_n hx hb dX5_readClause_63 rfl (lv_at hl 1 rfl) ?_
              refine lv_aload_n hx hb dX5_readClause_64 rfl (lv_at hl 2 rfl) ?_
              refine lv_iload_n hx hb dX5_readClause_65 rfl (lv_at hl 0 rfl) ?_
              refine va_calli (va_runV (As := [.ref (ad 9), .int (f_X5_wordAtHand T_1_1)]) (rest := []) ⟨hx, hb, hml, hown, hts⟩ (c_X5_readSeconds l D cI cL cZ ad A T_1_1 td dr dy lb pn ps ks si kb (f_X5_wordAtHand T_1_1) (sE1 hT_1_1 hl0 he0).1 (sE1 hT_1_1 hl0 he0).2.1 hpe) (cwV 2 hts gX5_readClause_X5_readSeconds rfl rfl rfl (by decide +kernel) ⟨Nat.le_of_ble_eq_true rfl, Nat.le_of_ble_eq_true rfl⟩) ⟨sR_fb, va_recv hK hP (ci := 5) (q0 := 1) rfl rfl, sR_at hP hK hD hE⟩ rfl rfl hl.1 rfl (lv_room (Nat.le_of_ble_eq_true rfl)) dX5_readClause_66 ⟨Nat.zero_le _, Nat.zero_le _⟩) hS (fun q _ h => h) (fun q h => h) (fun T_669999_7 T_66_7 t H locs ht hvm hw hB hz1 hk1 hS => ?_)
              obtain ⟨hT_669999_7, hT_66_7⟩ := hw
              rw [ht] at hB
              have hP : va_P D vwCl (xW cI cL cZ ad T_66_7.1 td T_66_7.2 dy lb pn ps ks si kb) H := hB
              have hD : va_D A (xW cI cL cZ ad T_66_7.1 td T_66_7.2 dy lb pn ps ks si kb) := xW_D hD
              have hf : (f_X5_readClause tx dr) = (T_669999_7, T_66_7.1, T_66_7.2) := by rw [f_X5_readClause]; (try rw [← hT_1_1]); (try rw [← hT_669999_7]); (try rw [← hT_66_7]); first | done | rw [if_neg c_1, if_neg c_2, if_neg c_3, if_neg c_4, if_neg c_5, if_pos c_6]
              have hf1 : T_669999_7 = (f_X5_readClause tx dr).1 := by rw [hf]
              have hf2 : (T_66_7.1, T_66_7.2) = (f_X5_readClause tx dr).2 := by rw [hf]
              exact W.zret (v := T_669999_7) (ty := .boolean) hx hb hr (nb_of (by rw [hT_669999_7]; exact (f_X5_readSeconds_b ..))) (fun t ht hW => ⟨⟨T_669999_7, (T_66_7.1, T_66_7.2), rfl, ⟨hf1, hf2⟩, va_Pt ht hP⟩, hS.F ht⟩) hS.2.2 dX5_readClause_69
            · by_cases c_7 : (f_X5_wordAtHand T_1_1) = nI 6
              · refine lv_tableIn (off := 60) (tgt := 70) hx hb dX5_readClause_10 (by rw [c_7]; decide) (by rw [c_7]; decide) (by rw [c_7]; decide) (by decide) ?_
                refine lv_aload_n hx hb dX5_readClause_70 rfl (lv_at hl 2 rfl) ?_
                refine lv_lconst (v := 0) hx hb dX5_readClause_71 rfl ?_
                refine va_putN (D := D) (ci := 6) (v := .long (0 : Int64)) (ty := .long) (C := RX6) (T := TX6) (N := 7) hx hb hts (by decide +kernel) tyX6 tyX6_ok nmX6 hown hK hP hD hS 9 rfl rfl 6 (by decide) (va_Nw.use rfl hE.2.2.2.2.2.2.2.2.1) (fun _ h9 => h9) rfl (by decide +kernel) rfl rfl (Nat.le_of_ble_eq_true rfl) dX5_readClause_72 (fun H locs hP hD hS => ?_)
                have hP : va_P D vwCl (xW cI cL cZ ad T_1_1 td (dr.1, dr.2.1, dr.2.2.1, dr.2.2.2.1, dr.2.2.2.2.1, dr.2.2.2.2.2.1, (0 : Int64)) dy lb pn ps ks si kb) H := hP
                have hD : va_D A (xW cI cL cZ ad T_1_1 td (dr.1, dr.2.1, dr.2.2.1, dr.2.2.2.1, dr.2.2.2.2.1, dr.2.2.2.2.2.1, (0 : Int64)) dy lb pn ps ks si kb) := hD
                refine lv_iconst (v := nI 1) hx hb dX5_readClause_75 rfl ?_
                have hf : (f_X5_readClause tx dr) = (nI 1, T_1_1, (dr.1, dr.2.1, dr.2.2.1, dr.2.2.2.1, dr.2.2.2.2.1, dr.2.2.2.2.2.1, (0 : Int64))) := by rw [f_X5_readClause]; (try rw [← hT_1_1]); first | done | rw [if_neg c_1, if_neg c_2, if_neg c_3, if_neg c_4, if_neg c_5, if_neg c_6, if_pos c_7]
                have hf1 : nI 1 = (f_X5_readClause tx dr).1 := by rw [hf]
                have hf2 : (T_1_1, (dr.1, dr.2.1, dr.2.2.1, dr.2.2.2.1, dr.2.2.2.2.1, dr.2.2.2.2.2.1, (0 : Int64))) = (f_X5_readClause tx dr).2 := by rw [hf]
                exact W.zret (v := nI 1) (ty := .boolean) hx hb hr rfl (fun t ht hW => ⟨⟨nI 1, (T_1_1, (dr.1, dr.2.1, dr.2.2.1, dr.2.2.2.1, dr.2.2.2.2.1, dr.2.2.2.2.2.1, (0 : Int64))), rfl, ⟨hf1, hf2⟩, va_Pt ht hP⟩, hS.F ht⟩) hS.2.2 dX5_readClause_76
              · by_cases c_8 : (f_X5_wordAtHand T_1_1) = nI 7
                · refine lv_tableIn (off := 67) (tgt := 77) hx hb dX5_readClause_10 (by rw [c_8]; decide) (by rw [c_8]; decide) (by rw [c_8]; decide) (by decide) ?_
                  refine lv_aload_n hx hb dX5_readClause_77 rfl (lv_at hl 2 rfl) ?_
                  refine va_callv (va_runV (As := []) (rest := []) ⟨hx, hb, hml, hown, hts⟩ (c_X6_reset l D cI cL cZ ad A T_1_1 td dr dy lb pn ps ks si kb  ) (cwV 0 hts gX5_readClause_X6_reset rfl rfl rfl (by decide +kernel) ⟨Nat.le_of_ble_eq_true rfl, Nat.le_of_ble_eq_true rfl⟩) ⟨sR_fb, va_recv hK hP (ci := 6) (q0 := 9) rfl rfl, sR_at hP hK hD hE⟩ rfl rfl hl.1 rfl (lv_room (Nat.le_of_ble_eq_true rfl)) dX5_readClause_78 ⟨Nat.zero_le _, Nat.zero_le _⟩) hS (fun q _ h => h) (fun q h => h) (fun T_78_8 t H locs ht hvm hT_78_8 hB hz1 hk1 hS => ?_)
                  rw [ht] at hB
                  have hP : va_P D vwCl (xW cI cL cZ ad T_1_1 td T_78_8 dy lb pn ps ks si kb) H := hB
                  have hD : va_D A (xW cI cL cZ ad T_1_1 td T_78_8 dy lb pn ps ks si kb) := xW_D hD
                  refine lv_iconst (v := nI 1) hx hb dX5_readClause_81 rfl ?_
                  have hf : (f_X5_readClause tx dr) = (nI 1, T_1_1, T_78_8) := by rw [f_X5_readClause]; (try rw [← hT_1_1]); (try rw [← hT_78_8]); first | done | rw [if_neg c_1, if_neg c_2, if_neg c_3, if_neg c_4, if_neg c_5, if_neg c_6, if_neg c_7, if_pos c_8]
                  have hf1 : nI 1 = (f_X5_readClause tx dr).1 := by rw [hf]
                  have hf2 : (T_1_1, T_78_8) = (f_X5_readClause tx dr).2 := by rw [hf]
                  exact W.zret (v := nI 1) (ty := .boolean) hx hb hr rfl (fun t ht hW => ⟨⟨nI 1, (T_1_1, T_78_8), rfl, ⟨hf1, hf2⟩, va_Pt ht hP⟩, hS.F ht⟩) hS.2.2 dX5_readClause_82
                · have w_9 : (f_X5_wordAtHand T_1_1).toInt < 0 ∨ 7 < (f_X5_wordAtHand T_1_1).toInt := by
                    have := lv_neT c_1 (show (nI 0 : Int32).toInt = 0 by decide)
                    have := lv_neT c_2 (show (nI 1 : Int32).toInt = 1 by decide)
                    have := lv_neT c_3 (show (nI 2 : Int32).toInt = 2 by decide)
                    have := lv_neT c_4 (show (nI 3 : Int32).toInt = 3 by decide)
                    have := lv_neT c_5 (show (nI 4 : Int32).toInt = 4 by decide)
                    have := lv_neT c_6 (show (nI 5 : Int32).toInt = 5 by decide)
                    have := lv_neT c_7 (show (nI 6 : Int32).toInt = 6 by decide)
                    have := lv_neT c_8 (show (nI 7 : Int32).toInt = 7 by decide)
                    omega
                  refine lv_tableOut (tgt := 83) hx hb dX5_readClause_10 w_9 (by decide) ?_
                  refine lv_iconst (v := nI 0) hx hb dX5_readClause_83 rfl ?_
                  have hf : (f_X5_readClause tx dr) = (nI 0, T_1_1, dr) := by rw [f_X5_readClause]; (try rw [← hT_1_1]); first | done | rw [if_neg c_1, if_neg c_2, if_neg c_3, if_neg c_4, if_neg c_5, if_neg c_6, if_neg c_7, if_neg c_8]
                  have hf1 : nI 0 = (f_X5_readClause tx dr).1 := by rw [hf]
                  have hf2 : (T_1_1, dr) = (f_X5_readClause tx dr).2 := by rw [hf]
                  exact W.zret (v := nI 0) (ty := .boolean) hx hb hr rfl (fun t ht hW => ⟨⟨nI 0, (T_1_1, dr), rfl, ⟨hf1, hf2⟩, va_Pt ht hP⟩, hS.F ht⟩) hS.2.2 dX5_readClause_84
theorem xrc_K {tx : XTx} {dr : XTd} (hl : tx.2.1 ≤ 160) (he : tx.2.2.2.1 ≤ tx.2.1) (hd : drK dr) : drK (f_X5_readClause tx dr).2.2 ∧ (f_X5_readClause tx dr).2.1.2.1 = tx.2.1 ∧ (f_X5_readClause tx dr).2.1.2.2.2.1 ≤ tx.2.1 := by
  obtain ⟨T1, e1⟩ : ∃ z, z = f_X5_step tx := ⟨_, rfl⟩
  have h1 := sE1 e1 hl he
  have hp : ∀ W : Int32, drK (f_X5_readPerson T1 dr W).2.2 ∧ (f_X5_readPerson T1 dr W).2.1.2.1 = tx.2.1 ∧ (f_X5_readPerson T1 dr W).2.1.2.2.2.1 ≤ tx.2.1 := fun W => by
    have h := xrp_K (ki := W) h1.2.1 hd
    have h2 := h1.2.2.2
    exact ⟨h.1, by omega, by omega⟩
  have hs : ∀ W : Int32, drK (f_X5_readSeconds T1 dr W).2.2 ∧ (f_X5_readSeconds T1 dr W).2.1.2.1 = tx.2.1 ∧ (f_X5_readSeconds T1 dr W).2.1.2.2.2.1 ≤ tx.2.1 := fun W => by
    have h := xrs_K (wo := W) h1.2.1 hd
    have h2 := h1.2.2.2
    exact ⟨h.1, by omega, by omega⟩
  have ht : T1.2.1 = tx.2.1 ∧ T1.2.2.2.1 ≤ tx.2.1 := by omega
  have hrs : drK (f_X6_reset dr) := by
    show 0 ≤ 6
    omega
  unfold f_X5_readClause
  rw [← e1]
  generalize f_X5_wordAtHand T1 = W
  split
  · dsimp only
    exact hp W
  · split
    · dsimp only
      exact hp W
    · split
      · dsimp only
        exact hp W
      · split
        · dsimp only
          exact hp W
        · split
          · dsimp only
            exact hs W
          · split
            · dsimp only
              exact hs W
            · split
              · dsimp only
                exact ⟨hd, ht⟩
              · split
                · dsimp only
                  exact ⟨hrs, ht⟩
                · dsimp only
                  exact ⟨hd, ht⟩
theorem xrE {tx : XTx} {dr : XTd} {T2 : XTx × XTd} (e : T2 = (f_X5_readClause tx dr).2) (hl : tx.2.1 ≤ 160) (he : tx.2.2.2.1 ≤ tx.2.1) (hd : drK dr) : T2.1.2.1 ≤ 160 ∧ T2.1.2.2.2.1 ≤ T2.1.2.1 ∧ drK T2.2 := by
  subst e
  have h := xrc_K hl he hd
  exact ⟨by omega, by omega, h.1⟩
