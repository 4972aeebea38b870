/-! WORDS: SendHall's rows against the reference's -/
theorem pu_g {i n : Nat} (h : i < n) (hn : i < 2 ^ 31) : ¬ (nI i < 0 ∨ n ≤ (nI i).toNatClampNeg) := by
  rw [nI_clamp hn]
  intro q
  rcases q with q | q
  · exact pu_nlt0 hn q
  · omega
theorem pu_wa (k j : Nat) : X8_wordAt (nI k) + nI j = nI (65 + 6 * k + j) := by
  unfold X8_wordAt
  rw [show (65 : Int32) = nI 65 from rfl, show (6 : Int32) = nI 6 from rfl, pk_mul, nI_add, nI_add]
theorem pu_w0 (k : Nat) : X8_wordAt (nI k) + 0 = nI (65 + 6 * k + 0) := pu_wa k 0
theorem pu_w1 (k : Nat) : X8_wordAt (nI k) + 1 = nI (65 + 6 * k + 1) := pu_wa k 1
theorem pu_w2 (k : Nat) : X8_wordAt (nI k) + 2 = nI (65 + 6 * k + 2) := pu_wa k 2
theorem pu_w3 (k : Nat) : X8_wordAt (nI k) + 3 = nI (65 + 6 * k + 3) := pu_wa k 3
theorem pu_w4 (k : Nat) : X8_wordAt (nI k) + 4 = nI (65 + 6 * k + 4) := pu_wa k 4
theorem pu_w5 (k : Nat) : X8_wordAt (nI k) + 5 = nI (65 + 6 * k + 5) := pu_wa k 5
theorem X8_words_eq (σ : am_M) : X8_words σ = σ 15 64 := rfl
/-- the k-th WORD stands alike in both -/
def rWd (σw σ : am_M) (k : Nat) : Prop := ∃ bw to lo be : Nat, bw < 8 ∧ to < 8 ∧ lo < 128 ∧ be < 2 ∧ σ 15 (65 + 6 * k + 0) = nI bw ∧ σ 15 (65 + 6 * k + 1) = nI to ∧ σ 15 (65 + 6 * k + 4) = nI lo ∧ σ 15 (65 + 6 * k + 5) = nI be ∧ σw 1 k = nI (256 * (8 * bw + to) + 2 * lo + be) ∧ σw 2 k = σ 15 (65 + 6 * k + 2) ∧ σw 3 k = σ 15 (65 + 6 * k + 3)
def rW (σw σ : am_M) (M : Nat) : Prop := M ≤ 320 ∧ σw 0 4 = nI M ∧ σ 15 64 = nI M ∧ ∀ k, k < M → rWd σw σ k
theorem rWd_pair {σw σ : am_M} {k bw to lo be : Nat} (hk : k < 320) (h : σw 1 k = nI (256 * (8 * bw + to) + 2 * lo + be)) (h1 : bw < 8) (h2 : to < 8) (h3 : lo < 128) (h4 : be < 2) : X6_pairAt σw (nI k) = nI (8 * bw + to) := by
  unfold X6_pairAt
  rw [jat_nI hk (by omega), h, show (8 : Int32) = nI 8 from rfl]
  rw [pk_shrN (by omega) (nI 8) 8 (by decide)]
  congr 1
  omega
theorem pu_pair (s r : Nat) : X6_pair (nI s) (nI r) = nI (8 * s + r) := by
  unfold X6_pair
  rw [show (8 : Int32) = nI 8 from rfl, pk_mul, nI_add, Nat.mul_comm]
theorem lying_loop (n : Nat) (σw σ : am_M) (M : Nat) (hr : rW σw σ M) (s r : Nat) (hs : s < 8) (hr8 : r < 8) (m : Int32) : ∀ (k i K : Nat), i + k = M → k < K → X8_lying_L3 n σ K (nI s) (nI r) m (nI i) = some (fiW σw (nI (8 * s + r)) m i k) := by
  obtain ⟨hM, h1, h2, h3⟩ := hr
  intro k
  induction k with
  | zero =>
    intro i K hi hK
    obtain ⟨K, rfl⟩ : ∃ J, K = J + 1 := ⟨K - 1, by omega⟩
    simp only [X8_lying_L3, X8_lying_B3, fiW]
    rw [if_pos (by rw [X8_words_eq, h2, pu_le (by omega) (by omega)]; omega)]
  | succ k ih =>
    intro i K hi hK
    obtain ⟨K, rfl⟩ : ∃ J, K = J + 1 := ⟨K - 1, by omega⟩
    obtain ⟨bw, to, lo, be, a1, a2, a3, a4, e1, e2, e3, e4, e5, e6, e7⟩ := h3 i (by omega)
    have hp := rWd_pair (σw := σw) (σ := σ) (by omega) e5 a1 a2 a3 a4
    simp only [X8_lying_L3, X8_lying_B3, X8_lying_J61, fiW]
    rw [if_neg (by rw [X8_words_eq, h2, pu_le (by omega) (by omega)]; omega)]
    rw [pu_w0, pu_w1, pu_w2, nI_1, if_neg (pu_g (i := 65 + 6 * i + 0) (n := 1985) (by omega) (by omega)), if_neg (pu_g (i := 65 + 6 * i + 1) (n := 1985) (by omega) (by omega)), if_neg (pu_g (i := 65 + 6 * i + 2) (n := 1985) (by omega) (by omega))]
    rw [nI_clamp (by omega), nI_clamp (by omega), nI_clamp (by omega), e1, e2, ← e6, hp, ih (i + 1) K (by omega) (by omega)]
    by_cases c1 : bw = s
    · by_cases c2 : to = r
      · rw [if_pos (show nI bw = nI s by rw [c1]), if_pos (show nI to = nI r by rw [c2])]
        by_cases c3 : σw 2 i = m
        · rw [if_pos c3, if_pos ⟨by rw [c1, c2], c3⟩]
        · rw [if_neg c3, if_neg (fun q => c3 q.2)]
      · rw [if_pos (show nI bw = nI s by rw [c1]), if_neg (fun q => c2 ((nI_eq (by omega) (by omega)).mp q)), if_neg (fun q => c2 (by have := (nI_eq (by omega) (by omega)).mp q.1; omega))]
    · rw [if_neg (fun q => c1 ((nI_eq (by omega) (by omega)).mp q)), if_neg (fun q => c1 (by have := (nI_eq (by omega) (by omega)).mp q.1; omega))]
/-- lying() is first() -/
theorem lying_first (n : Nat) (σw σ : am_M) (M : Nat) (hr : rW σw σ M) (s r : Nat) (hs : s < 8) (hr8 : r < 8) (m : Int32) (hn : 320 < n) : X8_lying n σ (nI s) (nI r) m = some (fiW σw (nI (8 * s + r)) m 0 M) ∧ X6_first n σw (nI s) (nI r) m = some (fiW σw (nI (8 * s + r)) m 0 M) := by
  have hM := hr.1
  refine ⟨?_, ?_⟩
  · unfold X8_lying
    rw [← nI_0]
    exact lying_loop n σw σ M hr s r hs hr8 m M 0 n (by omega) (by omega)
  · rw [X6_first_eq n σw M hr.2.1 hM hn, show nI s * 8 + nI r = nI (8 * s + r) from pu_pair s r]
