theorem dv1 {a X : Nat} (h : a < 256) : (a + 256 * X) / 256 = X := by omega
theorem dv2 {a b Y : Nat} (ha : a < 256) (hb : b < 256) : (a + 256 * (b + 256 * Y)) / 65536 = Y := by omega
theorem dv4 {a b c d Z : Nat} (ha : a < 256) (hb : b < 256) (hc : c < 256) (hd : d < 256) : (a + 256 * (b + 256 * (c + 256 * (d + 256 * Z)))) / 4294967296 = Z := by omega
theorem dv7 {t z W Z : Nat} (h : t + z < 128) : (t + 256 * W + (z + 256 * Z)) % 128 = t + z := by omega
theorem li1 (g0 g1 g2 g3 g4 g5 g6 g7 : Nat) : (g0 + 256 * (g1 + 256 * (g2 + 256 * (g3 + 256 * (g4 + 256 * (g5 + 256 * (g6 + 256 * g7))))))) + (g1 + 256 * (g2 + 256 * (g3 + 256 * (g4 + 256 * (g5 + 256 * (g6 + 256 * g7)))))) = (g0 + g1) + 256 * ((g1 + g2) + 256 * ((g2 + g3) + 256 * ((g3 + g4) + 256 * ((g4 + g5) + 256 * ((g5 + g6) + 256 * ((g6 + g7) + 256 * g7)))))) := by omega
theorem li2 (g0 g1 g2 g3 g4 g5 g6 g7 : Nat) : ((g0 + g1) + 256 * ((g1 + g2) + 256 * ((g2 + g3) + 256 * ((g3 + g4) + 256 * ((g4 + g5) + 256 * ((g5 + g6) + 256 * ((g6 + g7) + 256 * g7))))))) + ((g2 + g3) + 256 * ((g3 + g4) + 256 * ((g4 + g5) + 256 * ((g5 + g6) + 256 * ((g6 + g7) + 256 * g7))))) = (g0 + g1 + g2 + g3) + 256 * ((g1 + g2 + g3 + g4) + 256 * ((g2 + g3 + g4 + g5) + 256 * ((g3 + g4 + g5 + g6) + 256 * ((g4 + g5 + g6 + g7) + 256 * ((g5 + g6 + g7) + 256 * ((g6 + g7) + 256 * g7)))))) := by omega
theorem bd1 {g0 g1 g2 g3 g4 g5 g6 g7 : Nat} (h0 : g0 ≤ 8) (h1 : g1 ≤ 8) (h2 : g2 ≤ 8) (h3 : g3 ≤ 8) (h4 : g4 ≤ 8) (h5 : g5 ≤ 8) (h6 : g6 ≤ 8) (h7 : g7 ≤ 8) : (g0 + g1) + 256 * ((g1 + g2) + 256 * ((g2 + g3) + 256 * ((g3 + g4) + 256 * ((g4 + g5) + 256 * ((g5 + g6) + 256 * ((g6 + g7) + 256 * g7)))))) < 18446744073709551616 := by omega
theorem bd2 {g0 g1 g2 g3 g4 g5 g6 g7 : Nat} (h0 : g0 ≤ 8) (h1 : g1 ≤ 8) (h2 : g2 ≤ 8) (h3 : g3 ≤ 8) (h4 : g4 ≤ 8) (h5 : g5 ≤ 8) (h6 : g6 ≤ 8) (h7 : g7 ≤ 8) : (g0 + g1 + g2 + g3) + 256 * ((g1 + g2 + g3 + g4) + 256 * ((g2 + g3 + g4 + g5) + 256 * ((g3 + g4 + g5 + g6) + 256 * ((g4 + g5 + g6 + g7) + 256 * ((g5 + g6 + g7) + 256 * ((g6 + g7) + 256 * g7)))))) < 18446744073709551616 := by omega
theorem bd3 {g0 g1 g2 g3 g4 g5 g6 g7 : Nat} (h0 : g0 ≤ 8) (h1 : g1 ≤ 8) (h2 : g2 ≤ 8) (h3 : g3 ≤ 8) (h4 : g4 ≤ 8) (h5 : g5 ≤ 8) (h6 : g6 ≤ 8) (h7 : g7 ≤ 8) : ((g0 + g1 + g2 + g3) + 256 * ((g1 + g2 + g3 + g4) + 256 * ((g2 + g3 + g4 + g5) + 256 * ((g3 + g4 + g5 + g6) + 256 * ((g4 + g5 + g6 + g7) + 256 * ((g5 + g6 + g7) + 256 * ((g6 + g7) + 256 * g7))))))) + ((g4 + g5 + g6 + g7) + 256 * ((g5 + g6 + g7) + 256 * ((g6 + g7) + 256 * g7))) < 18446744073709551616 := by omega
theorem sm1 {g0 g1 g2 g3 g4 g5 g6 g7 : Nat} (h0 : g0 ≤ 8) (h1 : g1 ≤ 8) (h2 : g2 ≤ 8) (h3 : g3 ≤ 8) (h4 : g4 ≤ 8) (h5 : g5 ≤ 8) (h6 : g6 ≤ 8) (h7 : g7 ≤ 8) : (g0 + g1 + g2 + g3) + (g4 + g5 + g6 + g7) < 128 := by omega
theorem sm2 (g0 g1 g2 g3 g4 g5 g6 g7 : Nat) : (g0 + g1 + g2 + g3) + (g4 + g5 + g6 + g7) = g0 + g1 + g2 + g3 + g4 + g5 + g6 + g7 := by omega
theorem last3 {g0 g1 g2 g3 g4 g5 g6 g7 N : Nat} (h0 : g0 ≤ 8) (h1 : g1 ≤ 8) (h2 : g2 ≤ 8) (h3 : g3 ≤ 8) (h4 : g4 ≤ 8) (h5 : g5 ≤ 8) (h6 : g6 ≤ 8) (h7 : g7 ≤ 8)
    (hN : N = g0 + 256 * (g1 + 256 * (g2 + 256 * (g3 + 256 * (g4 + 256 * (g5 + 256 * (g6 + 256 * g7))))))) :
    ∃ M K : Nat, M = N + N / 256 ∧ K = M + M / 65536 ∧ M < 18446744073709551616 ∧ K < 18446744073709551616 ∧ K + K / 4294967296 < 18446744073709551616 ∧ (K + K / 4294967296) % 128 = g0 + g1 + g2 + g3 + g4 + g5 + g6 + g7 := by
  have a1 : N / 256 = g1 + 256 * (g2 + 256 * (g3 + 256 * (g4 + 256 * (g5 + 256 * (g6 + 256 * g7))))) := by rw [hN]; exact dv1 (by clear hN; omega)
  have b1 : N + N / 256 = (g0 + g1) + 256 * ((g1 + g2) + 256 * ((g2 + g3) + 256 * ((g3 + g4) + 256 * ((g4 + g5) + 256 * ((g5 + g6) + 256 * ((g6 + g7) + 256 * g7)))))) := by rw [a1, hN]; exact li1 ..
  obtain ⟨M, hM⟩ : ∃ M, M = N + N / 256 := ⟨_, rfl⟩
  rw [← hM] at b1
  have b2 : M / 65536 = (g2 + g3) + 256 * ((g3 + g4) + 256 * ((g4 + g5) + 256 * ((g5 + g6) + 256 * ((g6 + g7) + 256 * g7)))) := by rw [b1]; exact dv2 (by clear b1 a1 hN hM; omega) (by clear b1 a1 hN hM; omega)
  have c1 : M + M / 65536 = (g0 + g1 + g2 + g3) + 256 * ((g1 + g2 + g3 + g4) + 256 * ((g2 + g3 + g4 + g5) + 256 * ((g3 + g4 + g5 + g6) + 256 * ((g4 + g5 + g6 + g7) + 256 * ((g5 + g6 + g7) + 256 * ((g6 + g7) + 256 * g7)))))) := by rw [b2, b1]; exact li2 ..
  obtain ⟨K, hK⟩ : ∃ K, K = M + M / 65536 := ⟨_, rfl⟩
  rw [← hK] at c1
  have c2 : K / 4294967296 = (g4 + g5 + g6 + g7) + 256 * ((g5 + g6 + g7) + 256 * ((g6 + g7) + 256 * g7)) := by rw [c1]; exact dv4 (by clear c1 b2 b1 a1 hK hM hN; omega) (by clear c1 b2 b1 a1 hK hM hN; omega) (by clear c1 b2 b1 a1 hK hM hN; omega) (by clear c1 b2 b1 a1 hK hM hN; omega)
  refine ⟨M, K, hM, hK, ?_, ?_, ?_, ?_⟩
  · rw [b1]; exact bd1 h0 h1 h2 h3 h4 h5 h6 h7
  · rw [c1]; exact bd2 h0 h1 h2 h3 h4 h5 h6 h7
  · rw [c2, c1]; exact bd3 h0 h1 h2 h3 h4 h5 h6 h7
  · rw [c2, c1, dv7 (sm1 h0 h1 h2 h3 h4 h5 h6 h7)]; exact sm2 ..
