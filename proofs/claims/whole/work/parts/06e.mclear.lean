theorem sh_pow {n : Nat} (h : n ≤ 6) : nI 1 <<< (nI n &&& 31) = nI (2 ^ n) := by
  have h1 : ∀ n, n ≤ 6 → nI 1 <<< (nI n &&& 31) = nI (2 ^ n) := by decide +kernel
  exact h1 n h
theorem pow_64 {n : Nat} (h : n ≤ 6) : 2 ^ n ≤ 64 := Nat.le_trans (Nat.pow_le_pow_right (by decide) h) (by decide)
theorem gz {x : Int32} {n : Nat} (h : 0 ≤ x.toInt ∧ x.toInt ≤ (0 : Nat)) (c : ¬ x = 0) : False := c (by
  rw [fa_eq, Int32.toInt_zero]
  omega)
theorem g_rem {x y : Int32} (hx : 0 ≤ x.toInt) (hy : 0 < y.toInt) : 0 ≤ (x - x / y * y).toInt ∧ (x - x / y * y).toInt < y.toInt := by
  have ex := nn_int hx
  have ey := nn_int (Int.le_of_lt hy)
  have h1 := cl_lt x
  have h2 := cl_lt y
  have h3 := cl_int y
  have h4 : 0 < y.toNatClampNeg := by omega
  rw [ex, ey, pk_rem (by omega) h4 (by omega), nI_toInt (Nat.lt_trans (Nat.mod_lt _ h4) (by omega)), nI_toInt (by omega)]
  have := Nat.mod_lt x.toNatClampNeg h4
  omega
theorem ne_pos {y : Int32} (h : 0 ≤ y.toInt) (c : ¬ y = 0) : 0 < y.toInt := by
  rw [fa_eq, Int32.toInt_zero] at c
  omega
def L_X8_clear_65  : Nat → Nat → Int32 → Int32
  | 0, _, x7_65 => x7_65
  | n_65 + 1, k_65, x7_65 => (L_X8_clear_65 n_65 (k_65 + 1) (x7_65 * (nI 10)))
def L_X8_clear_103 (qq : Int32) (k_88 : Nat) : Nat → Nat → Int32 → Int32
  | 0, _, x9_103 => x9_103
  | n_103 + 1, k_103, x9_103 => (L_X8_clear_103 qq k_88 n_103 (k_103 + 1) (x9_103 * (if (f_X8_has (nI k_88) (nI k_103)) = 0 then qq else ((nI 10) - qq))))
def L_X8_clear_88 (kk : Int32) (qq : Int32) (T_51 : Nat) : Nat → Nat → Int32 → Int32
  | 0, _, x6_88 => x6_88
  | n_88 + 1, k_88, x6_88 => (L_X8_clear_88 kk qq T_51 n_88 (k_88 + 1) (x6_88 + (if (f_X8_ones k_88) < kk then nI 0 else (L_X8_clear_103 qq k_88 T_51 0 (nI 1)))))
def L_X8_clear_173  : Nat → Int32 → Int32 → Int32 × Int32
  | 0, x9_173, x8_173 => (x9_173, x8_173)
  | n_173 + 1, x9_173, x8_173 => (if x9_173 = 0 then (x9_173, x8_173) else (L_X8_clear_173 n_173 (x8_173 - x8_173 / x9_173 * x9_173) x9_173))
def f_X8_clear (to : (Nat → Int32)) (st : (Nat → Int32)) (pe : Int32) (kk : Int32) (qq : Int32) (pa : Int32) : Int32 := (if (f_X8_isPerson to pe) = 0 then (-2 : Int32) else (if (f_X8_in kk.toInt64 (0 : Int64) (6 : Int64)) = 0 then (-3 : Int32) else (if (f_X8_in qq.toInt64 (0 : Int64) (10 : Int64)) = 0 then (-3 : Int32) else (if (f_X8_in pa.toInt64 (0 : Int64) (1 : Int64)) = 0 then (-3 : Int32) else (if pa = 0 then ((L_X8_clear_88 kk qq ((f_X8_standMany to st pe.toNatClampNeg).toNatClampNeg) (2 ^ ((f_X8_standMany to st pe.toNatClampNeg).toNatClampNeg)) 0 (nI 0)) / (L_X8_clear_173 (L_X8_clear_65 ((f_X8_standMany to st pe.toNatClampNeg).toNatClampNeg) 0 (nI 1)).toNatClampNeg (L_X8_clear_65 ((f_X8_standMany to st pe.toNatClampNeg).toNatClampNeg) 0 (nI 1)) (L_X8_clear_88 kk qq ((f_X8_standMany to st pe.toNatClampNeg).toNatClampNeg) (2 ^ ((f_X8_standMany to st pe.toNatClampNeg).toNatClampNeg)) 0 (nI 0))).2) else ((L_X8_clear_65 ((f_X8_standMany to st pe.toNatClampNeg).toNatClampNeg) 0 (nI 1)) / (L_X8_clear_173 (L_X8_clear_65 ((f_X8_standMany to st pe.toNatClampNeg).toNatClampNeg) 0 (nI 1)).toNatClampNeg (L_X8_clear_65 ((f_X8_standMany to st pe.toNatClampNeg).toNatClampNeg) 0 (nI 1)) (L_X8_clear_88 kk qq ((f_X8_standMany to st pe.toNatClampNeg).toNatClampNeg) (2 ^ ((f_X8_standMany to st pe.toNatClampNeg).toNatClampNeg)) 0 (nI 0))).2))))))
theorem clr_b : ∀ n, n ≤ 6 → 0 < (L_X8_clear_65 n 0 (nI 1)).toInt := by decide +kernel
theorem clr_a : ∀ n, n ≤ 6 → ∀ k, k < 7 → ∀ q, q < 11 → 0 ≤ (L_X8_clear_88 (nI k) (nI q) n (2 ^ n) 0 (nI 0)).toInt := by decide +kernel
abbrev rm_X8_clear : Room := { frames := 4, cells := 0, slots := 0, locals := 90 }
set_option maxHeartbeats 4000000 in
set_option maxRecDepth 100000 in
theorem c_X8_clear (l : Launch) (D : va_G) (cI cL cZ : ClassId) (ad : Nat → Nat) (A : Nat → Prop) (to : (Nat → Int32)) (st : (Nat → Int32)) (mt : MTx) (rd : (Nat → Int32)) (un : MUn) (kp : MKp) (rw : MKp) (se : MUn) (pe : Int32) (kk : Int32) (qq : Int32) (pa : Int32) (hm : to 0 = nI (mN to)) (hm6 : mN to ≤ 6) (hsm : ∀ p, p < mN to → (f_X8_standMany to st p = nI (f_X8_standMany to st p).toNatClampNeg ∧ (f_X8_standMany to st p).toNatClampNeg ≤ 6)) : Met l yX8_clear wsX8_clear rm_X8_clear (va_Pc [.ref (ad 0), .int pe, .int kk, .int qq, .int pa] (sR D cI cL cZ A (mW cI cL cZ ad to st mt rd un kp rw se))) (vp_Si (fun r => r = (f_X8_clear to st pe kk qq pa))) 0 0 (fun _ => False) := by
  refine Met.ofW (cc := cX8_clear) (maxL := 11) (ret := (some .int)) (by decide) rfl ?_
  intro p e s m args below meth c s₁ B hml hv
  obtain ⟨rfl, hP, hK, hD, hE⟩ := hv
  have hx := B.exec
  have hb := B.bytes
  have hr := B.returns
  have hts := atoms_spec (ws := wsX8_clear) B.pre
  have hown : s.vm.findClass RX8 = some m.cls := findClass_of_methodNamed B.named
  have hlocks := B.notSynchronized
  have hl := lv_entry ([.ref (ad 0), .int pe, .int kk, .int qq, .int pa]) (n := 11) (Nat.le_of_ble_eq_true rfl)
  rw [lg_entry_eq]
  generalize (lg_sl ([.ref (ad 0), .int pe, .int kk, .int qq, .int pa]) ++ List.replicate (11 - (lg_sl ([.ref (ad 0), .int pe, .int kk, .int qq, .int pa])).length) Slot.unset).toArray = ls at hl ⊢
  have hl : lv_has ls 11 [(0, .ref (ad 0)), (1, .int pe), (2, .int kk), (3, .int qq), (4, .int pa)] := hl
  obtain ⟨Q, hQe⟩ : ∃ Q, Q = MQ below (vp_Si (fun r => r = (f_X8_clear to st pe kk qq pa))) ([.ref (ad 0), .int pe, .int kk, .int qq, .int pa] : List Value).toArray s 0 0 (fun _ => False) := ⟨_, rfl⟩
  show W p l e (headSpec wsX8_clear rm_X8_clear).room s m ([.ref (ad 0), .int pe, .int kk, .int qq, .int pa] : List Value).toArray below meth c s.heap [] 0 0 (MQ below (vp_Si (fun r => r = (f_X8_clear to st pe kk qq pa))) ([.ref (ad 0), .int pe, .int kk, .int qq, .int pa] : List Value).toArray s 0 0 (fun _ => False)) (F0 m 0 ls [])
  rw [← hQe]
  refine lv_aload_n hx hb dX8_clear_0 rfl (lv_at hl 0 rfl) ?_
  refine lv_iload_n hx hb dX8_clear_1 rfl (lv_at hl 1 rfl) ?_
  refine vp_callSi (va_Run.run (va_runV (As := [.int pe]) (rest := []) ⟨hx, hb, hml, hown, hts⟩ (c_X8_isPerson l D cI cL cZ ad A to st mt rd un kp rw se pe (by first | assumption | omega) (by first | assumption | omega)) (cwV 1 hts gX8_clear_X8_isPerson rfl rfl rfl (by decide +kernel) ⟨Nat.le_of_ble_eq_true rfl, Nat.le_of_ble_eq_true rfl⟩) ⟨sR_fb, va_recv hK hP (ci := 8) (q0 := 0) rfl rfl, sR_at hP hK hD hE⟩ rfl rfl hl.1 rfl (lv_room (Nat.le_of_ble_eq_true rfl)) dX8_clear_2 ⟨Nat.zero_le _, Nat.zero_le _⟩)) (fun r hr => ?_)
  subst hr
  refine lv_if_ne (tgt := 11) hx hb dX8_clear_5 (by decide) (fun c_1 => ?_) (fun c_1 => ?_)
  · refine lv_iload_n hx hb dX8_clear_11 rfl (lv_at hl 2 rfl) ?_
    refine lv_i2l hx hb dX8_clear_12 rfl ?_
    refine lv_lconst (v := 0) hx hb dX8_clear_13 rfl ?_
    refine lv_ldc2 (v := (6)) hx hb hown (hts (.constantLong RX8 171 (6)) (by decide +kernel)) dX8_clear_14 ?_
    refine vp_callSi (va_Run.run (va_runS (As := [.long kk.toInt64, .long (0 : Int64), .long (6 : Int64)]) (rest := []) ⟨hx, hb, hml, hown, hts⟩ (c_X8_in l kk.toInt64 (0 : Int64) (6 : Int64) ) (va_cwS 3 hts gX8_clear_X8_in rfl rfl rfl (by decide +kernel) ⟨Nat.le_of_ble_eq_true rfl, Nat.le_of_ble_eq_true rfl⟩) ⟨pR_fb, pR_at⟩ rfl rfl hl.1 rfl (lv_room (Nat.le_of_ble_eq_true rfl)) dX8_clear_17 ⟨Nat.zero_le _, Nat.zero_le _⟩)) (fun r hr => ?_)
    subst hr
    refine lv_if_eq (tgt := 46) hx hb dX8_clear_20 (by decide) (fun c_2 => ?_) (fun c_2 => ?_)
    · refine lv_bipush (v := (-3)) hx hb dX8_clear_46 rfl ?_
      subst hQe
      have hf : (f_X8_clear to st pe kk qq pa) = (-3 : Int32) := by rw [f_X8_clear, if_neg c_1, if_pos c_2]
      exact W.iret (v := (-3 : Int32)) hx hb hr (fun t ht hW => ⟨(-3 : Int32), rfl, hf.symm, ht⟩) (fun _ h => by cases h) dX8_clear_48
    · refine lv_iload_n hx hb dX8_clear_23 rfl (lv_at hl 3 rfl) ?_
      refine lv_i2l hx hb dX8_clear_24 rfl ?_
      refine lv_lconst (v := 0) hx hb dX8_clear_25 rfl ?_
      refine lv_ldc2 (v := (10)) hx hb hown (hts (.constantLong RX8 187 (10)) (by decide +kernel)) dX8_clear_26 ?_
      refine vp_callSi (va_Run.run (va_runS (As := [.long qq.toInt64, .long (0 : Int64), .long (10 : Int64)]) (rest := []) ⟨hx, hb, hml, hown, hts⟩ (c_X8_in l qq.toInt64 (0 : Int64) (10 : Int64) ) (va_cwS 3 hts gX8_clear_X8_in rfl rfl rfl (by decide +kernel) ⟨Nat.le_of_ble_eq_true rfl, Nat.le_of_ble_eq_true rfl⟩) ⟨pR_fb, pR_at⟩ rfl rfl hl.1 rfl (lv_room (Nat.le_of_ble_eq_true rfl)) dX8_clear_29 ⟨Nat.zero_le _, Nat.zero_le _⟩)) (fun r hr => ?_)
      subst hr
      refine lv_if_eq (tgt := 46) hx hb dX8_clear_32 (by decide) (fun c_3 => ?_) (fun c_3 => ?_)
      · refine lv_bipush (v := (-3)) hx hb dX8_clear_46 rfl ?_
        subst hQe
        have hf : (f_X8_clear to st pe kk qq pa) = (-3 : Int32) := by rw [f_X8_clear, if_neg c_1, if_neg c_2, if_pos c_3]
        exact W.iret (v := (-3 : Int32)) hx hb hr (fun t ht hW => ⟨(-3 : Int32), rfl, hf.symm, ht⟩) (fun _ h => by cases h) dX8_clear_48
      · refine lv_iload hx hb dX8_clear_35 (lv_at hl 4 rfl) ?_
        refine lv_i2l hx hb dX8_clear_37 rfl ?_
        refine lv_lconst (v := 0) hx hb dX8_clear_38 rfl ?_
        refine lv_lconst (v := 1) hx hb dX8_clear_39 rfl ?_
        refine vp_callSi (va_Run.run (va_runS (As := [.long pa.toInt64, .long (0 : Int64), .long (1 : Int64)]) (rest := []) ⟨hx, hb, hml, hown, hts⟩ (c_X8_in l pa.toInt64 (0 : Int64) (1 : Int64) ) (va_cwS 3 hts gX8_clear_X8_in rfl rfl rfl (by decide +kernel) ⟨Nat.le_of_ble_eq_true rfl, Nat.le_of_ble_eq_true rfl⟩) ⟨pR_fb, pR_at⟩ rfl rfl hl.1 rfl (lv_room (Nat.le_of_ble_eq_true rfl)) dX8_clear_40 ⟨Nat.zero_le _, Nat.zero_le _⟩)) (fun r hr => ?_)
        subst hr
        refine lv_if_ne (tgt := 49) hx hb dX8_clear_43 (by decide) (fun c_4 => ?_) (fun c_4 => ?_)
        · have hpl : pe.toNatClampNeg < mN to := isP_lt hm6 c_1
          have hl : lv_has ls 11 [(0, .ref (ad 0)), (1, .int (nI pe.toNatClampNeg)), (2, .int kk), (3, .int qq), (4, .int pa)] := by have h9 := hl; rw [isP_nat c_1] at h9; exact h9
          refine lv_aload_n hx hb dX8_clear_49 rfl (lv_at hl 0 rfl) ?_
          refine lv_iload_n hx hb dX8_clear_50 rfl (lv_at hl 1 rfl) ?_
          refine vp_callSi (va_Run.run (va_runV (As := [.int (nI pe.toNatClampNeg)]) (rest := []) ⟨hx, hb, hml, hown, hts⟩ (c_X8_standMany l D cI cL cZ ad A to st mt rd un kp rw se pe.toNatClampNeg (by first | assumption | omega)) (cwV 1 hts gX8_clear_X8_standMany rfl rfl rfl (by decide +kernel) ⟨Nat.le_of_ble_eq_true rfl, Nat.le_of_ble_eq_true rfl⟩) ⟨sR_fb, va_recv hK hP (ci := 8) (q0 := 0) rfl rfl, sR_at hP hK hD hE⟩ rfl rfl hl.1 rfl (lv_room (Nat.le_of_ble_eq_true rfl)) dX8_clear_51 ⟨Nat.zero_le _, Nat.zero_le _⟩)) (fun r hr => ?_)
          subst hr
          obtain ⟨T_51_1, hT_51_1⟩ : ∃ z, z = (f_X8_standMany to st pe.toNatClampNeg).toNatClampNeg := ⟨_, rfl⟩
          refine mv_top (y := nI T_51_1) (by rw [hT_51_1]; exact (hsm _ hpl).1) ?_
          have hN : T_51_1 ≤ 6 := by rw [hT_51_1]; exact (hsm _ hpl).2
          refine lv_istore (lv' := [(5, .int (nI T_51_1)), (0, .ref (ad 0)), (1, .int (nI pe.toNatClampNeg)), (2, .int kk), (3, .int qq), (4, .int pa)]) hx hb dX8_clear_54 hl (by decide) rfl (fun ls hl => ?_)
          refine lv_iconst (v := nI 0) hx hb dX8_clear_56 rfl ?_
          refine lv_istore (lv' := [(6, .int (nI 0)), (5, .int (nI T_51_1)), (0, .ref (ad 0)), (1, .int (nI pe.toNatClampNeg)), (2, .int kk), (3, .int qq), (4, .int pa)]) hx hb dX8_clear_57 hl (by decide) rfl (fun ls hl => ?_)
          refine lv_iconst (v := nI 1) hx hb dX8_clear_59 rfl ?_
          refine lv_istore (lv' := [(7, .int (nI 1)), (6, .int (nI 0)), (5, .int (nI T_51_1)), (0, .ref (ad 0)), (1, .int (nI pe.toNatClampNeg)), (2, .int kk), (3, .int qq), (4, .int pa)]) hx hb dX8_clear_60 hl (by decide) rfl (fun ls hl => ?_)
          refine lv_iconst (v := nI 0) hx hb dX8_clear_62 rfl ?_
          refine lv_istore (lv' := [(8, .int (nI 0)), (7, .int (nI 1)), (6, .int (nI 0)), (5, .int (nI T_51_1)), (0, .ref (ad 0)), (1, .int (nI pe.toNatClampNeg)), (2, .int kk), (3, .int qq), (4, .int pa)]) hx hb dX8_clear_63 hl (by decide) rfl (fun ls hl => ?_)
          obtain ⟨T_65_2, hT_65_2⟩ : ∃ z, z = (L_X8_clear_65 T_51_1 0 (nI 1)) := ⟨_, rfl⟩
          have hexit_65 : ∀ (ls : Array Slot), lv_has ls 11 [(7, .int T_65_2), (6, .int (nI 0)), (5, .int (nI T_51_1)), (0, .ref (ad 0)), (1, .int (nI pe.toNatClampNeg)), (2, .int kk), (3, .int qq), (4, .int pa)] → W p l e (headSpec wsX8_clear rm_X8_clear).room s m ([.ref (ad 0), .int pe, .int kk, .int qq, .int pa] : List Value).toArray below meth c s.heap [] 0 0 Q (F0 m 85 ls []) := by
            intro ls hl
            have h2p : 2 ^ T_51_1 ≤ 64 := pow_64 (by omega)
            refine lv_iconst (v := nI 0) hx hb dX8_clear_85 rfl ?_
            refine lv_istore (lv' := [(8, .int (nI 0)), (7, .int T_65_2), (6, .int (nI 0)), (5, .int (nI T_51_1)), (0, .ref (ad 0)), (1, .int (nI pe.toNatClampNeg)), (2, .int kk), (3, .int qq), (4, .int pa)]) hx hb dX8_clear_86 hl (by decide) rfl (fun ls hl => ?_)
            obtain ⟨T_88_5, hT_88_5⟩ : ∃ z, z = (L_X8_clear_88 kk qq T_51_1 (2 ^ T_51_1) 0 (nI 0)) := ⟨_, rfl⟩
            have hexit_88 : ∀ (ls : Array Slot), lv_has ls 11 [(7, .int T_65_2), (6, .int T_88_5), (5, .int (nI T_51_1)), (0, .ref (ad 0)), (1, .int (nI pe.toNatClampNeg)), (2, .int kk), (3, .int qq), (4, .int pa)] → W p l e (headSpec wsX8_clear rm_X8_clear).room s m ([.ref (ad 0), .int pe, .int kk, .int qq, .int pa] : List Value).toArray below meth c s.heap [] 0 0 Q (F0 m 165 ls []) := by
              intro ls hl
              have ha := clr_a T_51_1 (by omega) kk.toNatClampNeg (in_lt (by decide) c_2) qq.toNatClampNeg (in_lt (by decide) c_3)
              rw [← in_nat c_2, ← in_nat c_3] at ha
              have hbl := clr_b T_51_1 (by omega)
              refine lv_iload hx hb dX8_clear_165 (lv_at hl 1 rfl) ?_
              refine lv_istore (lv' := [(8, .int T_88_5), (7, .int T_65_2), (6, .int T_88_5), (5, .int (nI T_51_1)), (0, .ref (ad 0)), (1, .int (nI pe.toNatClampNeg)), (2, .int kk), (3, .int qq), (4, .int pa)]) hx hb dX8_clear_167 hl (by decide) rfl (fun ls hl => ?_)
              refine lv_iload hx hb dX8_clear_169 (lv_at hl 1 rfl) ?_
              refine lv_istore (lv' := [(9, .int T_65_2), (8, .int T_88_5), (7, .int T_65_2), (6, .int T_88_5), (5, .int (nI T_51_1)), (0, .ref (ad 0)), (1, .int (nI pe.toNatClampNeg)), (2, .int kk), (3, .int qq), (4, .int pa)]) hx hb dX8_clear_171 hl (by decide) rfl (fun ls hl => ?_)
              obtain ⟨T_173_7, hT_173_7⟩ : ∃ z, z = (L_X8_clear_173 T_65_2.toNatClampNeg T_65_2 T_88_5) := ⟨_, rfl⟩
              have hexit_173 : ∀ (ls : Array Slot), (0 < T_173_7.2.toInt) → lv_has ls 11 [(9, .int T_173_7.1), (8, .int T_173_7.2), (7, .int T_65_2), (6, .int T_88_5), (5, .int (nI T_51_1)), (0, .ref (ad 0)), (1, .int (nI pe.toNatClampNeg)), (2, .int kk), (3, .int qq), (4, .int pa)] → W p l e (headSpec wsX8_clear rm_X8_clear).room s m ([.ref (ad 0), .int pe, .int kk, .int qq, .int pa] : List Value).toArray below meth c s.heap [] 0 0 Q (F0 m 196 ls []) := by
                intro ls hx0 hl
                refine lv_iload hx hb dX8_clear_196 (lv_at hl 9 rfl) ?_
                refine mv_phi (v := (if pa = 0 then (T_88_5 / T_173_7.2) else (T_65_2 / T_173_7.2))) (pcj := 214) (ls := ls) (rest' := []) ?_ (fun J_17 => ?_)
                · subst hQe
                  have hf : (f_X8_clear to st pe kk qq pa) = (if pa = 0 then (T_88_5 / T_173_7.2) else (T_65_2 / T_173_7.2)) := by subst hT_173_7; subst hT_88_5; subst hT_65_2; subst hT_51_1; rw [f_X8_clear, if_neg c_1, if_neg c_2, if_neg c_3, if_neg c_4]
                  exact W.iret (v := (if pa = 0 then (T_88_5 / T_173_7.2) else (T_65_2 / T_173_7.2))) hx hb hr (fun t ht hW => ⟨(if pa = 0 then (T_88_5 / T_173_7.2) else (T_65_2 / T_173_7.2)), rfl, hf.symm, ht⟩) (fun _ h => by cases h) dX8_clear_214
                · refine lv_if_ne (tgt := 209) hx hb dX8_clear_198 (by decide) (fun c_18 => ?_) (fun c_18 => ?_)
                  · refine lv_iload hx hb dX8_clear_209 (lv_at hl 2 rfl) ?_
                    refine lv_iload hx hb dX8_clear_211 (lv_at hl 1 rfl) ?_
                    refine lv_idiv hx hb dX8_clear_213 (by intro h; rw [h, Int32.toInt_zero] at hx0; omega) ?_
                    exact J_17 _ (by rw [if_neg c_18])
                  · refine lv_iload hx hb dX8_clear_201 (lv_at hl 3 rfl) ?_
                    refine lv_iload hx hb dX8_clear_203 (lv_at hl 1 rfl) ?_
                    refine lv_idiv hx hb dX8_clear_205 (by intro h; rw [h, Int32.toInt_zero] at hx0; omega) ?_
                    refine lv_goto (tgt := 214) hx hb dX8_clear_206 (by decide) ?_
                    exact J_17 _ (by rw [if_pos c_18])
              have loop_173 : ∀ (n_173 : Nat) (x9_173 : Int32) (x8_173 : Int32), (0 ≤ x9_173.toInt ∧ x9_173.toInt ≤ n_173) → (0 ≤ x8_173.toInt ∧ (0 < x8_173.toInt ∨ 0 < x9_173.toInt)) → L_X8_clear_173 n_173 x9_173 x8_173 = T_173_7 → ∀ (ls : Array Slot), lv_has ls 11 [(9, .int x9_173), (8, .int x8_173), (7, .int T_65_2), (6, .int T_88_5), (5, .int (nI T_51_1)), (0, .ref (ad 0)), (1, .int (nI pe.toNatClampNeg)), (2, .int kk), (3, .int qq), (4, .int pa)] → W p l e (headSpec wsX8_clear rm_X8_clear).room s m ([.ref (ad 0), .int pe, .int kk, .int qq, .int pa] : List Value).toArray below meth c s.heap [] 0 0 Q (F0 m 173 ls []) := by
                intro n_173
                induction n_173 with
                | zero =>
                  intro x9_173 x8_173 hg hg2 hL_173 ls hl
                  refine lv_iload hx hb dX8_clear_173 (lv_at hl 0 rfl) ?_
                  refine lv_if_eq (tgt := 196) hx hb dX8_clear_175 (by decide) (fun c_16 => ?_) (fun c_16 => (gz (n := 0) hg c_16).elim)
                  have e9 : T_173_7 = (x9_173, x8_173) := by rw [← hL_173, L_X8_clear_173]
                  have hq := hexit_173
                  rw [e9] at hq
                  exact hq ls (show 0 < x8_173.toInt by rw [c_16, Int32.toInt_zero] at hg2; omega) (lv_sub hl [0, 1, 2, 3, 4, 5, 6, 7, 8, 9] rfl)
                | succ n_173 ih_173 =>
                  intro x9_173 x8_173 hg hg2 hL_173 ls hl
                  refine lv_iload hx hb dX8_clear_173 (lv_at hl 0 rfl) ?_
                  refine lv_if_eq (tgt := 196) hx hb dX8_clear_175 (by decide) (fun c_15 => ?_) (fun c_15 => ?_)
                  · have e9 : T_173_7 = (x9_173, x8_173) := by rw [← hL_173, L_X8_clear_173, if_pos c_15]
                    have hq := hexit_173
                    rw [e9] at hq
                    exact hq ls (show 0 < x8_173.toInt by rw [c_15, Int32.toInt_zero] at hg2; omega) (lv_sub hl [0, 1, 2, 3, 4, 5, 6, 7, 8, 9] rfl)
                  · refine lv_iload hx hb dX8_clear_178 (lv_at hl 1 rfl) ?_
                    refine lv_iload hx hb dX8_clear_180 (lv_at hl 0 rfl) ?_
                    refine lv_irem hx hb dX8_clear_182 c_15 ?_
                    refine lv_istore (lv' := [(10, .int (x8_173 - x8_173 / x9_173 * x9_173)), (9, .int x9_173), (8, .int x8_173), (7, .int T_65_2), (6, .int T_88_5), (5, .int (nI T_51_1)), (0, .ref (ad 0)), (1, .int (nI pe.toNatClampNeg)), (2, .int kk), (3, .int qq), (4, .int pa)]) hx hb dX8_clear_183 hl (by decide) rfl (fun ls hl => ?_)
                    refine lv_iload hx hb dX8_clear_185 (lv_at hl 1 rfl) ?_
                    refine lv_istore (lv' := [(8, .int x9_173), (10, .int (x8_173 - x8_173 / x9_173 * x9_173)), (9, .int x9_173), (7, .int T_65_2), (6, .int T_88_5), (5, .int (nI T_51_1)), (0, .ref (ad 0)), (1, .int (nI pe.toNatClampNeg)), (2, .int kk), (3, .int qq), (4, .int pa)]) hx hb dX8_clear_187 hl (by decide) rfl (fun ls hl => ?_)
                    refine lv_iload hx hb dX8_clear_189 (lv_at hl 1 rfl) ?_
                    refine lv_istore (lv' := [(9, .int (x8_173 - x8_173 / x9_173 * x9_173)), (8, .int x9_173), (10, .int (x8_173 - x8_173 / x9_173 * x9_173)), (7, .int T_65_2), (6, .int T_88_5), (5, .int (nI T_51_1)), (0, .ref (ad 0)), (1, .int (nI pe.toNatClampNeg)), (2, .int kk), (3, .int qq), (4, .int pa)]) hx hb dX8_clear_191 hl (by decide) rfl (fun ls hl => ?_)
                    refine lv_goto (tgt := 173) hx hb dX8_clear_193 (by decide) ?_
                    exact ih_173 (x8_173 - x8_173 / x9_173 * x9_173) x9_173 (by have hz := g_rem hg2.1 (ne_pos hg.1 c_15); omega) (by have hz := g_rem hg2.1 (ne_pos hg.1 c_15); have hz2 := ne_pos hg.1 c_15; omega) (by have e9 := hL_173; rw [L_X8_clear_173, if_neg c_15] at e9; exact e9) ls (lv_sub hl [0, 1, 3, 4, 5, 6, 7, 8, 9, 10] rfl)
              exact loop_173 T_65_2.toNatClampNeg T_65_2 T_88_5 (by have := cl_int T_65_2; rw [← hT_65_2] at hbl; omega) (by rw [← hT_65_2] at hbl; rw [← hT_88_5] at ha; omega) hT_173_7.symm ls (lv_sub hl [0, 1, 2, 3, 4, 5, 6, 7, 8, 9] rfl)
            have loop_88 : ∀ (n_88 : Nat) (k_88 : Nat) (x6_88 : Int32), (k_88 + n_88 = (2 ^ T_51_1)) → L_X8_clear_88 kk qq T_51_1 n_88 k_88 x6_88 = T_88_5 → ∀ (ls : Array Slot), lv_has ls 11 [(8, .int (nI k_88)), (7, .int T_65_2), (6, .int x6_88), (5, .int (nI T_51_1)), (0, .ref (ad 0)), (1, .int (nI pe.toNatClampNeg)), (2, .int kk), (3, .int qq), (4, .int pa)] → W p l e (headSpec wsX8_clear rm_X8_clear).room s m ([.ref (ad 0), .int pe, .int kk, .int qq, .int pa] : List Value).toArray below meth c s.heap [] 0 0 Q (F0 m 88 ls []) := by
              intro n_88
              induction n_88 with
              | zero =>
                intro k_88 x6_88 hk_88 hL_88 ls hl
                refine lv_iload hx hb dX8_clear_88 (lv_at hl 0 rfl) ?_
                refine lv_iconst (v := nI 1) hx hb dX8_clear_90 rfl ?_
                refine lv_iload hx hb dX8_clear_91 (lv_at hl 3 rfl) ?_
                refine lv_ishl hx hb dX8_clear_93 ?_
                refine mv_top (y := nI (2 ^ T_51_1)) (sh_pow (by omega)) ?_
                refine mv_icmp_ge (tgt := 165) hx hb dX8_clear_94 (by decide) (by omega) (by omega) (fun c_14 => ?_) (fun c_14 => (by omega : False).elim)
                have e9 : T_88_5 = x6_88 := by rw [← hL_88, L_X8_clear_88]
                have hq := hexit_88
                rw [e9] at hq
                exact hq ls  (lv_sub hl [1, 2, 3, 4, 5, 6, 7, 8] rfl)
              | succ n_88 ih_88 =>
                intro k_88 x6_88 hk_88 hL_88 ls hl
                refine lv_iload hx hb dX8_clear_88 (lv_at hl 0 rfl) ?_
                refine lv_iconst (v := nI 1) hx hb dX8_clear_90 rfl ?_
                refine lv_iload hx hb dX8_clear_91 (lv_at hl 3 rfl) ?_
                refine lv_ishl hx hb dX8_clear_93 ?_
                refine mv_top (y := nI (2 ^ T_51_1)) (sh_pow (by omega)) ?_
                refine mv_icmp_ge (tgt := 165) hx hb dX8_clear_94 (by decide) (by omega) (by omega) (fun c_7 => (by omega : False).elim) (fun c_7 => ?_)
                refine lv_iconst (v := nI 1) hx hb dX8_clear_97 rfl ?_
                refine lv_istore (lv' := [(9, .int (nI 1)), (8, .int (nI k_88)), (7, .int T_65_2), (6, .int x6_88), (5, .int (nI T_51_1)), (0, .ref (ad 0)), (1, .int (nI pe.toNatClampNeg)), (2, .int kk), (3, .int qq), (4, .int pa)]) hx hb dX8_clear_98 hl (by decide) rfl (fun ls hl => ?_)
                refine lv_iconst (v := nI 0) hx hb dX8_clear_100 rfl ?_
                refine lv_istore (lv' := [(10, .int (nI 0)), (9, .int (nI 1)), (8, .int (nI k_88)), (7, .int T_65_2), (6, .int x6_88), (5, .int (nI T_51_1)), (0, .ref (ad 0)), (1, .int (nI pe.toNatClampNeg)), (2, .int kk), (3, .int qq), (4, .int pa)]) hx hb dX8_clear_101 hl (by decide) rfl (fun ls hl => ?_)
                obtain ⟨T_103_6, hT_103_6⟩ : ∃ z, z = (L_X8_clear_103 qq k_88 T_51_1 0 (nI 1)) := ⟨_, rfl⟩
                have hexit_103 : ∀ (ls : Array Slot), lv_has ls 11 [(9, .int T_103_6), (8, .int (nI k_88)), (7, .int T_65_2), (6, .int x6_88), (5, .int (nI T_51_1)), (0, .ref (ad 0)), (1, .int (nI pe.toNatClampNeg)), (2, .int kk), (3, .int qq), (4, .int pa)] → W p l e (headSpec wsX8_clear rm_X8_clear).room s m ([.ref (ad 0), .int pe, .int kk, .int qq, .int pa] : List Value).toArray below meth c s.heap [] 0 0 Q (F0 m 139 ls []) := by
                  intro ls hl
                  refine lv_iload hx hb dX8_clear_139 (lv_at hl 3 rfl) ?_
                  refine lv_iload hx hb dX8_clear_141 (lv_at hl 1 rfl) ?_
                  refine vp_callSi (va_Run.run (va_runS (As := [.int (nI k_88)]) (rest := [.int x6_88]) ⟨hx, hb, hml, hown, hts⟩ (c_X8_ones l k_88 (by first | assumption | omega)) (va_cwS 1 hts gX8_clear_X8_ones rfl rfl rfl (by decide +kernel) ⟨Nat.le_of_ble_eq_true rfl, Nat.le_of_ble_eq_true rfl⟩) ⟨pR_fb, pR_at⟩ rfl rfl hl.1 rfl (lv_room (Nat.le_of_ble_eq_true rfl)) dX8_clear_143 ⟨Nat.zero_le _, Nat.zero_le _⟩)) (fun r hr => ?_)
                  subst hr
                  refine lv_iload_n hx hb dX8_clear_146 rfl (lv_at hl 7 rfl) ?_
                  refine mv_phi (v := (if (f_X8_ones k_88) < kk then nI 0 else T_103_6)) (pcj := 156) (ls := ls) (rest' := [.int x6_88]) ?_ (fun J_12 => ?_)
                  · refine lv_iadd hx hb dX8_clear_156 ?_
                    refine lv_istore (lv' := [(6, .int (x6_88 + (if (f_X8_ones k_88) < kk then nI 0 else T_103_6))), (9, .int T_103_6), (8, .int (nI k_88)), (7, .int T_65_2), (5, .int (nI T_51_1)), (0, .ref (ad 0)), (1, .int (nI pe.toNatClampNeg)), (2, .int kk), (3, .int qq), (4, .int pa)]) hx hb dX8_clear_157 hl (by decide) rfl (fun ls hl => ?_)
                    refine mv_iinc (y := k_88 + 1) (lv' := [(8, .int (nI (k_88 + 1))), (6, .int (x6_88 + (if (f_X8_ones k_88) < kk then nI 0 else T_103_6))), (9, .int T_103_6), (7, .int T_65_2), (5, .int (nI T_51_1)), (0, .ref (ad 0)), (1, .int (nI pe.toNatClampNeg)), (2, .int kk), (3, .int qq), (4, .int pa)]) hx hb dX8_clear_159 hl (k := 2) rfl (nI_p1 _) (by decide) rfl (fun ls hl => ?_)
                    refine lv_goto (tgt := 88) hx hb dX8_clear_162 (by decide) ?_
                    exact ih_88 (k_88 + 1) (x6_88 + (if (f_X8_ones k_88) < kk then nI 0 else T_103_6)) (by omega) (by subst hT_103_6; have e9 := hL_88; rw [L_X8_clear_88] at e9; exact e9) ls (lv_sub hl [0, 3, 1, 4, 5, 6, 7, 8, 9] rfl)
                  · refine lv_icmp_lt (tgt := 155) hx hb dX8_clear_147 (by decide) (fun c_13 => ?_) (fun c_13 => ?_)
                    · refine lv_iconst (v := nI 0) hx hb dX8_clear_155 rfl ?_
                      exact J_12 _ (by rw [if_pos c_13])
                    · refine lv_iload hx hb dX8_clear_150 (lv_at hl 0 rfl) ?_
                      refine lv_goto (tgt := 156) hx hb dX8_clear_152 (by decide) ?_
                      exact J_12 _ (by rw [if_neg c_13])
                have loop_103 : ∀ (n_103 : Nat) (k_103 : Nat) (x9_103 : Int32), (k_103 + n_103 = T_51_1) → L_X8_clear_103 qq k_88 n_103 k_103 x9_103 = T_103_6 → ∀ (ls : Array Slot), lv_has ls 11 [(10, .int (nI k_103)), (9, .int x9_103), (8, .int (nI k_88)), (7, .int T_65_2), (6, .int x6_88), (5, .int (nI T_51_1)), (0, .ref (ad 0)), (1, .int (nI pe.toNatClampNeg)), (2, .int kk), (3, .int qq), (4, .int pa)] → W p l e (headSpec wsX8_clear rm_X8_clear).room s m ([.ref (ad 0), .int pe, .int kk, .int qq, .int pa] : List Value).toArray below meth c s.heap [] 0 0 Q (F0 m 103 ls []) := by
                  intro n_103
                  induction n_103 with
                  | zero =>
                    intro k_103 x9_103 hk_103 hL_103 ls hl
                    refine lv_iload hx hb dX8_clear_103 (lv_at hl 0 rfl) ?_
                    refine lv_iload hx hb dX8_clear_105 (lv_at hl 5 rfl) ?_
                    refine mv_icmp_ge (tgt := 139) hx hb dX8_clear_107 (by decide) (by omega) (by omega) (fun c_11 => ?_) (fun c_11 => (by omega : False).elim)
                    have e9 : T_103_6 = x9_103 := by rw [← hL_103, L_X8_clear_103]
                    have hq := hexit_103
                    rw [e9] at hq
                    exact hq ls  (lv_sub hl [1, 2, 3, 4, 5, 6, 7, 8, 9, 10] rfl)
                  | succ n_103 ih_103 =>
                    intro k_103 x9_103 hk_103 hL_103 ls hl
                    refine lv_iload hx hb dX8_clear_103 (lv_at hl 0 rfl) ?_
                    refine lv_iload hx hb dX8_clear_105 (lv_at hl 5 rfl) ?_
                    refine mv_icmp_ge (tgt := 139) hx hb dX8_clear_107 (by decide) (by omega) (by omega) (fun c_8 => (by omega : False).elim) (fun c_8 => ?_)
                    refine lv_iload hx hb dX8_clear_110 (lv_at hl 1 rfl) ?_
                    refine lv_iload hx hb dX8_clear_112 (lv_at hl 2 rfl) ?_
                    refine lv_iload hx hb dX8_clear_114 (lv_at hl 0 rfl) ?_
                    refine vp_callSi (va_Run.run (va_runS (As := [.int (nI k_88), .int (nI k_103)]) (rest := [.int x9_103]) ⟨hx, hb, hml, hown, hts⟩ (c_X8_has l (nI k_88) (nI k_103) ) (va_cwS 2 hts gX8_clear_X8_has rfl rfl rfl (by decide +kernel) ⟨Nat.le_of_ble_eq_true rfl, Nat.le_of_ble_eq_true rfl⟩) ⟨pR_fb, pR_at⟩ rfl rfl hl.1 rfl (lv_room (Nat.le_of_ble_eq_true rfl)) dX8_clear_116 ⟨Nat.zero_le _, Nat.zero_le _⟩)) (fun r hr => ?_)
                    subst hr
                    refine mv_phi (v := (if (f_X8_has (nI k_88) (nI k_103)) = 0 then qq else ((nI 10) - qq))) (pcj := 130) (ls := ls) (rest' := [.int x9_103]) ?_ (fun J_9 => ?_)
                    · refine lv_imul hx hb dX8_clear_130 ?_
                      refine lv_istore (lv' := [(9, .int (x9_103 * (if (f_X8_has (nI k_88) (nI k_103)) = 0 then qq else ((nI 10) - qq)))), (10, .int (nI k_103)), (8, .int (nI k_88)), (7, .int T_65_2), (6, .int x6_88), (5, .int (nI T_51_1)), (0, .ref (ad 0)), (1, .int (nI pe.toNatClampNeg)), (2, .int kk), (3, .int qq), (4, .int pa)]) hx hb dX8_clear_131 hl (by decide) rfl (fun ls hl => ?_)
                      refine mv_iinc (y := k_103 + 1) (lv' := [(10, .int (nI (k_103 + 1))), (9, .int (x9_103 * (if (f_X8_has (nI k_88) (nI k_103)) = 0 then qq else ((nI 10) - qq)))), (8, .int (nI k_88)), (7, .int T_65_2), (6, .int x6_88), (5, .int (nI T_51_1)), (0, .ref (ad 0)), (1, .int (nI pe.toNatClampNeg)), (2, .int kk), (3, .int qq), (4, .int pa)]) hx hb dX8_clear_133 hl (k := 1) rfl (nI_p1 _) (by decide) rfl (fun ls hl => ?_)
                      refine lv_goto (tgt := 103) hx hb dX8_clear_136 (by decide) ?_
                      exact ih_103 (k_103 + 1) (x9_103 * (if (f_X8_has (nI k_88) (nI k_103)) = 0 then qq else ((nI 10) - qq))) (by omega) (by have e9 := hL_103; rw [L_X8_clear_103] at e9; exact e9) ls (lv_sub hl [0, 1, 2, 3, 4, 5, 6, 7, 8, 9, 10] rfl)
                    · refine lv_if_eq (tgt := 129) hx hb dX8_clear_119 (by decide) (fun c_10 => ?_) (fun c_10 => ?_)
                      · refine lv_iload_n hx hb dX8_clear_129 rfl (lv_at hl 9 rfl) ?_
                        exact J_9 _ (by rw [if_pos c_10])
                      · refine lv_bipush (v := nI 10) hx hb dX8_clear_122 rfl ?_
                        refine lv_iload_n hx hb dX8_clear_124 rfl (lv_at hl 9 rfl) ?_
                        refine lv_isub hx hb dX8_clear_125 ?_
                        refine lv_goto (tgt := 130) hx hb dX8_clear_126 (by decide) ?_
                        exact J_9 _ (by rw [if_neg c_10])
                exact loop_103 T_51_1 0 (nI 1) (by omega) hT_103_6.symm ls (lv_sub hl [0, 1, 2, 3, 4, 5, 6, 7, 8, 9, 10] rfl)
            exact loop_88 (2 ^ T_51_1) 0 (nI 0) (by omega) hT_88_5.symm ls (lv_sub hl [0, 1, 2, 3, 4, 5, 6, 7, 8] rfl)
          have loop_65 : ∀ (n_65 : Nat) (k_65 : Nat) (x7_65 : Int32), (k_65 + n_65 = T_51_1) → L_X8_clear_65 n_65 k_65 x7_65 = T_65_2 → ∀ (ls : Array Slot), lv_has ls 11 [(8, .int (nI k_65)), (7, .int x7_65), (6, .int (nI 0)), (5, .int (nI T_51_1)), (0, .ref (ad 0)), (1, .int (nI pe.toNatClampNeg)), (2, .int kk), (3, .int qq), (4, .int pa)] → W p l e (headSpec wsX8_clear rm_X8_clear).room s m ([.ref (ad 0), .int pe, .int kk, .int qq, .int pa] : List Value).toArray below meth c s.heap [] 0 0 Q (F0 m 65 ls []) := by
            intro n_65
            induction n_65 with
            | zero =>
              intro k_65 x7_65 hk_65 hL_65 ls hl
              refine lv_iload hx hb dX8_clear_65 (lv_at hl 0 rfl) ?_
              refine lv_iload hx hb dX8_clear_67 (lv_at hl 3 rfl) ?_
              refine mv_icmp_ge (tgt := 85) hx hb dX8_clear_69 (by decide) (by omega) (by omega) (fun c_6 => ?_) (fun c_6 => (by omega : False).elim)
              have e9 : T_65_2 = x7_65 := by rw [← hL_65, L_X8_clear_65]
              have hq := hexit_65
              rw [e9] at hq
              exact hq ls  (lv_sub hl [1, 2, 3, 4, 5, 6, 7, 8] rfl)
            | succ n_65 ih_65 =>
              intro k_65 x7_65 hk_65 hL_65 ls hl
              refine lv_iload hx hb dX8_clear_65 (lv_at hl 0 rfl) ?_
              refine lv_iload hx hb dX8_clear_67 (lv_at hl 3 rfl) ?_
              refine mv_icmp_ge (tgt := 85) hx hb dX8_clear_69 (by decide) (by omega) (by omega) (fun c_5 => (by omega : False).elim) (fun c_5 => ?_)
              refine lv_iload hx hb dX8_clear_72 (lv_at hl 1 rfl) ?_
              refine lv_bipush (v := nI 10) hx hb dX8_clear_74 rfl ?_
              refine lv_imul hx hb dX8_clear_76 ?_
              refine lv_istore (lv' := [(7, .int (x7_65 * (nI 10))), (8, .int (nI k_65)), (6, .int (nI 0)), (5, .int (nI T_51_1)), (0, .ref (ad 0)), (1, .int (nI pe.toNatClampNeg)), (2, .int kk), (3, .int qq), (4, .int pa)]) hx hb dX8_clear_77 hl (by decide) rfl (fun ls hl => ?_)
              refine mv_iinc (y := k_65 + 1) (lv' := [(8, .int (nI (k_65 + 1))), (7, .int (x7_65 * (nI 10))), (6, .int (nI 0)), (5, .int (nI T_51_1)), (0, .ref (ad 0)), (1, .int (nI pe.toNatClampNeg)), (2, .int kk), (3, .int qq), (4, .int pa)]) hx hb dX8_clear_79 hl (k := 1) rfl (nI_p1 _) (by decide) rfl (fun ls hl => ?_)
              refine lv_goto (tgt := 65) hx hb dX8_clear_82 (by decide) ?_
              exact ih_65 (k_65 + 1) (x7_65 * (nI 10)) (by omega) (by have e9 := hL_65; rw [L_X8_clear_65] at e9; exact e9) ls (lv_sub hl [0, 1, 2, 3, 4, 5, 6, 7, 8] rfl)
          exact loop_65 T_51_1 0 (nI 1) (by omega) hT_65_2.symm ls (lv_sub hl [0, 1, 2, 3, 4, 5, 6, 7, 8] rfl)
        · refine lv_bipush (v := (-3)) hx hb dX8_clear_46 rfl ?_
          subst hQe
          have hf : (f_X8_clear to st pe kk qq pa) = (-3 : Int32) := by rw [f_X8_clear, if_neg c_1, if_neg c_2, if_neg c_3, if_pos c_4]
          exact W.iret (v := (-3 : Int32)) hx hb hr (fun t ht hW => ⟨(-3 : Int32), rfl, hf.symm, ht⟩) (fun _ h => by cases h) dX8_clear_48
  · refine lv_bipush (v := (-2)) hx hb dX8_clear_8 rfl ?_
    subst hQe
    have hf : (f_X8_clear to st pe kk qq pa) = (-2 : Int32) := by rw [f_X8_clear, if_pos c_1]
    exact W.iret (v := (-2 : Int32)) hx hb hr (fun t ht hW => ⟨(-2 : Int32), rfl, hf.symm, ht⟩) (fun _ h => by cases h) dX8_clear_10
