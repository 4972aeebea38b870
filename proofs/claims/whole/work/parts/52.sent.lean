theorem rWd_begun {σw : am_M} {k bw to lo be : Nat} (hk : k < 320) (h : σw 1 k = nI (256 * (8 * bw + to) + 2 * lo + be)) (h1 : bw < 8) (h2 : to < 8) (h3 : lo < 128) (h4 : be < 2) : X6_begunAt σw (nI k) = decide (be = 1) := by
  unfold X6_begunAt
  rw [jat_nI hk (by omega), h, pk_andN (m := 1) (by omega) 1 (by decide), show (256 * (8 * bw + to) + 2 * lo + be) % 2 ^ 1 = be by omega]
  rcases (show be = 0 ∨ be = 1 by omega) with rfl | rfl
  · rfl
  · rfl
theorem rWd_size {σw : am_M} {k bw to lo be : Nat} (hk : k < 320) (h : σw 1 k = nI (256 * (8 * bw + to) + 2 * lo + be)) (h1 : bw < 8) (h2 : to < 8) (h3 : lo < 128) (h4 : be < 2) : X6_sizeAt σw (nI k) = nI lo := by
  unfold X6_sizeAt
  rw [jat_nI hk (by omega), h, show (1 : Int32) = nI 1 from rfl, pk_shrN (by omega) (nI 1) 1 (by decide), pk_andN (m := 127) (by omega) 7 (by decide)]
  congr 1
  omega
/-- sent() is sentBetween() -/
theorem sent_loop (n : Nat) (σw σ : am_M) (M : Nat) (hr : rW σw σ M) (s r : Nat) (hs : s < 8) (hr8 : r < 8) : ∀ (k i K K' : Nat) (c : Int32), i + k = M → k < K → k < K' → ∃ v, X8_sent_L5 n σ K (nI s) (nI r) c (nI i) = some v ∧ X6_sentBetween_L12 n σw K' (nI (8 * s + r)) c (nI i) = some v := by
  obtain ⟨hM, h1, h2, h3⟩ := hr
  intro k
  induction k with
  | zero =>
    intro i K K' c hi hK hK'
    obtain ⟨K, rfl⟩ : ∃ J, K = J + 1 := ⟨K - 1, by omega⟩
    obtain ⟨K', rfl⟩ : ∃ J, K' = J + 1 := ⟨K' - 1, by omega⟩
    simp only [X8_sent_L5, X8_sent_B5, X6_sentBetween_L12, X6_sentBetween_B12]
    rw [if_pos (show X8_words σ ≤ nI i by rw [X8_words_eq, h2, pu_le (by omega) (by omega)]; omega), if_pos (show σw 0 4 ≤ nI i by rw [h1, pu_le (by omega) (by omega)]; omega)]
    exact ⟨_, rfl, rfl⟩
  | succ k ih =>
    intro i K K' c hi hK hK'
    obtain ⟨K, rfl⟩ : ∃ J, K = J + 1 := ⟨K - 1, by omega⟩
    obtain ⟨K', rfl⟩ : ∃ J, K' = J + 1 := ⟨K' - 1, by omega⟩
    obtain ⟨bw, to, lo, be, a1, a2, a3, a4, e1, e2, e3, e4, e5, e6, e7⟩ := h3 i (by omega)
    have hp := rWd_pair (σw := σw) (σ := σ) (by omega) e5 a1 a2 a3 a4
    have hb := rWd_begun (σw := σw) (by omega) e5 a1 a2 a3 a4
    simp only [X8_sent_L5, X8_sent_B5, X8_sent_J64, X8_sent_J65, X6_sentBetween_L12, X6_sentBetween_B12, X6_sentBetween_J43]
    rw [if_neg (show ¬ X8_words σ ≤ nI i by rw [X8_words_eq, h2, pu_le (by omega) (by omega)]; omega), if_neg (show ¬ σw 0 4 ≤ nI i by rw [h1, pu_le (by omega) (by omega)]; omega)]
    rw [pu_w0, pu_w1, pu_w5, nI_1, if_neg (pu_g (i := 65 + 6 * i + 0) (n := 1985) (by omega) (by omega)), if_neg (pu_g (i := 65 + 6 * i + 1) (n := 1985) (by omega) (by omega)), if_neg (pu_g (i := 65 + 6 * i + 5) (n := 1985) (by omega) (by omega))]
    rw [nI_clamp (by omega), nI_clamp (by omega), nI_clamp (by omega), e1, e2, e4, hp, hb, Int32.add_zero]
    obtain ⟨v0, g1, g2⟩ := ih (i + 1) K K' c (by omega) (by omega) (by omega)
    obtain ⟨v1, g3, g4⟩ := ih (i + 1) K K' (c + 1) (by omega) (by omega) (by omega)
    rw [g1, g2, g3, g4]
    by_cases c1 : bw = s
    · by_cases c2 : to = r
      · rw [if_pos (show nI bw = nI s by rw [c1]), if_pos (show nI to = nI r by rw [c2]), if_pos (show nI (8 * bw + to) = nI (8 * s + r) by rw [c1, c2])]
        by_cases c3 : be = 1
        · subst c3
          rw [if_neg (by decide), if_pos (by decide)]
          exact ⟨_, rfl, rfl⟩
        · have c4 : be = 0 := by omega
          subst c4
          rw [if_pos (by decide), if_neg (by decide)]
          exact ⟨_, rfl, rfl⟩
      · rw [if_pos (show nI bw = nI s by rw [c1]), if_neg (fun q => c2 ((nI_eq (by omega) (by omega)).mp q)), if_neg (fun q => c2 (by have := (nI_eq (by omega) (by omega)).mp q; omega))]
        exact ⟨_, rfl, rfl⟩
    · rw [if_neg (fun q => c1 ((nI_eq (by omega) (by omega)).mp q)), if_neg (fun q => c1 (by have := (nI_eq (by omega) (by omega)).mp q; omega))]
      exact ⟨_, rfl, rfl⟩
theorem sent_eq (n : Nat) (σw σ : am_M) (M : Nat) (hr : rW σw σ M) (s r : Nat) (hs : s < 8) (hr8 : r < 8) (hn : 320 < n) : ∃ v, X8_sent n σ (nI s) (nI r) = some v ∧ X6_sentBetween n σw (nI s) (nI r) = some v := by
  have hM := hr.1
  obtain ⟨v, g1, g2⟩ := sent_loop n σw σ M hr s r hs hr8 M 0 n n 0 (by omega) (by omega) (by omega)
  refine ⟨v, ?_, ?_⟩
  · unfold X8_sent
    rw [← nI_0] at g1 ⊢
    exact g1
  · unfold X6_sentBetween
    rw [pu_pair]
    rw [← nI_0] at g2 ⊢
    exact g2
/-- begun() is begunBy() -/
theorem begun_loop (n : Nat) (σw σ : am_M) (M : Nat) (hr : rW σw σ M) (s : Nat) (hs : s < 8) : ∀ (k i K K' : Nat) (c : Int32), i + k = M → k < K → k < K' → ∃ v, X8_begun_L4 n σ K (nI s) c (nI i) = some v ∧ X6_begunBy_L4 n σw K' (nI s) c (nI i) = some v := by
  obtain ⟨hM, h1, h2, h3⟩ := hr
  intro k
  induction k with
  | zero =>
    intro i K K' c hi hK hK'
    obtain ⟨K, rfl⟩ : ∃ J, K = J + 1 := ⟨K - 1, by omega⟩
    obtain ⟨K', rfl⟩ : ∃ J, K' = J + 1 := ⟨K' - 1, by omega⟩
    simp only [X8_begun_L4, X8_begun_B4, X6_begunBy_L4, X6_begunBy_B4]
    rw [if_pos (show X8_words σ ≤ nI i by rw [X8_words_eq, h2, pu_le (by omega) (by omega)]; omega), if_pos (show σw 0 4 ≤ nI i by rw [h1, pu_le (by omega) (by omega)]; omega)]
    exact ⟨_, rfl, rfl⟩
  | succ k ih =>
    intro i K K' c hi hK hK'
    obtain ⟨K, rfl⟩ : ∃ J, K = J + 1 := ⟨K - 1, by omega⟩
    obtain ⟨K', rfl⟩ : ∃ J, K' = J + 1 := ⟨K' - 1, by omega⟩
    obtain ⟨bw, to, lo, be, a1, a2, a3, a4, e1, e2, e3, e4, e5, e6, e7⟩ := h3 i (by omega)
    have hp := rWd_pair (σw := σw) (σ := σ) (by omega) e5 a1 a2 a3 a4
    have hb := rWd_begun (σw := σw) (by omega) e5 a1 a2 a3 a4
    have hsn : X6_senderAt σw (nI i) = nI bw := by
      unfold X6_senderAt
      rw [hp, show (8 : Int32) = nI 8 from rfl, pk_div (by omega) (by omega) (by omega)]
      congr 1
      omega
    have hrm : nI (8 * bw + to) - nI (8 * bw + to) / 8 * 8 = nI to := by
      rw [show (8 : Int32) = nI 8 from rfl, pk_rem (by omega) (by omega) (by omega)]
      congr 1
      omega
    simp only [X8_begun_L4, X8_begun_B4, X8_begun_J59, X8_begun_J60, X6_begunBy_L4, X6_begunBy_B4, X6_begunBy_J42]
    rw [if_neg (show ¬ X8_words σ ≤ nI i by rw [X8_words_eq, h2, pu_le (by omega) (by omega)]; omega), if_neg (show ¬ σw 0 4 ≤ nI i by rw [h1, pu_le (by omega) (by omega)]; omega)]
    rw [pu_w0, pu_w1, pu_w5, nI_1, if_neg (pu_g (i := 65 + 6 * i + 0) (n := 1985) (by omega) (by omega)), if_neg (pu_g (i := 65 + 6 * i + 5) (n := 1985) (by omega) (by omega)), if_neg (pu_g (i := 65 + 6 * i + 1) (n := 1985) (by omega) (by omega))]
    rw [nI_clamp (by omega), nI_clamp (by omega), nI_clamp (by omega), e1, e2, e4, hsn, hp, hrm, hb, Int32.or_zero]
    obtain ⟨v0, g1, g2⟩ := ih (i + 1) K K' c (by omega) (by omega) (by omega)
    obtain ⟨v1, g3, g4⟩ := ih (i + 1) K K' (c ||| (1 <<< (nI to &&& 31))) (by omega) (by omega) (by omega)
    rw [g1, g2, g3, g4]
    by_cases c1 : bw = s
    · rw [if_pos (show nI bw = nI s by rw [c1])]
      by_cases c3 : be = 1
      · subst c3
        rw [if_pos (by decide), if_pos (by decide)]
        rw [if_pos (show nI bw = nI s by rw [c1])]
        exact ⟨_, rfl, rfl⟩
      · have c4 : be = 0 := by omega
        subst c4
        rw [if_neg (by decide), if_neg (by decide)]
        exact ⟨_, rfl, rfl⟩
    · rw [if_neg (fun q => c1 ((nI_eq (by omega) (by omega)).mp q))]
      by_cases c3 : be = 1
      · subst c3
        rw [if_pos (by decide)]
        rw [if_neg (fun q => c1 ((nI_eq (by omega) (by omega)).mp q))]
        exact ⟨_, rfl, rfl⟩
      · have c4 : be = 0 := by omega
        subst c4
        rw [if_neg (by decide)]
        exact ⟨_, rfl, rfl⟩
theorem begun_eq (n : Nat) (σw σ : am_M) (M : Nat) (hr : rW σw σ M) (s : Nat) (hs : s < 8) (hn : 320 < n) : ∃ v, X8_begun n σ (nI s) = some v ∧ X6_begunBy n σw (nI s) = some v := by
  have hM := hr.1
  obtain ⟨v, g1, g2⟩ := begun_loop n σw σ M hr s hs M 0 n n 0 (by omega) (by omega) (by omega)
  refine ⟨v, ?_, ?_⟩
  · unfold X8_begun
    rw [← nI_0] at g1 ⊢
    exact g1
  · unfold X6_begunBy
    rw [← nI_0] at g2 ⊢
    exact g2
