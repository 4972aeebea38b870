theorem pu_64 : (64 : Int32).toNatClampNeg = 64 := by decide
theorem zrN_0 {f : Nat → Int32} {b : Nat} : zrN f b 0 = f := by
  funext x
  unfold zrN
  rw [if_neg (by omega)]
/-- what takeAway leaves of 'now' -/
def tkN (f : Nat → Int32) (M a : Nat) : Nat → Int32 := zrN (upd (mvN f (65 + 6 * a) (65 + 6 * (M - 1))) 64 (nI (M - 1))) (65 + 6 * (M - 1)) 6
theorem takeAway_out (n : Nat) (σ : am_M) (f g : Nat → Int32) (M a : Nat) (hf : f 64 = nI M) (hM : M ≤ 320) (hn : 320 < n) : ∀ (k t K : Nat), t + 1 + k = M → k < K → a ≤ t → X8_takeAway_L2 n K (stN σ (mvN f (65 + 6 * a) (65 + 6 * t)) (mvT g a t)) (nI t) = some (stN σ (tkN f M a) (mvT g a (M - 1))) := by
  have hw : ∀ t, mvN f (65 + 6 * a) (65 + 6 * t) 64 = nI M := fun t => by
    unfold mvN
    rw [if_neg (by omega), hf]
  intro k
  induction k with
  | zero =>
    intro t K ht hK ha
    obtain ⟨K, rfl⟩ : ∃ J, K = J + 1 := ⟨K - 1, by omega⟩
    have e : M = t + 1 := by omega
    subst e
    simp only [X8_takeAway_L2, X8_takeAway_B2]
    rw [X8_words_eq, stN_a, hw, if_pos (show nI (t + 1) ≤ nI t + 1 by rw [nI_1, pu_le (by omega) (by omega)]; exact Nat.le_refl _), pu_64, hw, nI_pred, stN_15, X8_words_eq, stN_a, show upd (mvN f (65 + 6 * a) (65 + 6 * t)) 64 (nI t) 64 = nI t from if_pos rfl, pu_wA]
    have h1 := takeAway_zr n σ (upd (mvN f (65 + 6 * a) (65 + 6 * t)) 64 (nI t)) (mvT g a t) (65 + 6 * t) (by omega) 6 0 n (by omega) (by omega)
    rw [zrN_0, nI_0] at h1
    exact h1
  | succ k ih =>
    intro t K ht hK ha
    obtain ⟨K, rfl⟩ : ∃ J, K = J + 1 := ⟨K - 1, by omega⟩
    simp only [X8_takeAway_L2, X8_takeAway_B2]
    rw [X8_words_eq, stN_a, hw, if_neg (show ¬ nI M ≤ nI t + 1 by rw [nI_1, pu_le (by omega) (by omega)]; omega), pu_wA]
    have h1 := takeAway_in n (X8_takeAway_L2 n K) σ f (mvT g a t) (65 + 6 * a) t (by omega) (by omega) 6 0 n (by omega) (by omega)
    rw [nI_0, mvT_step ha] at h1
    rw [Nat.add_zero] at h1
    rw [h1]
    exact ih (t + 1) K (by omega) (by omega) (by omega)
theorem stN_self (σ : am_M) : stN σ (σ 15) (σ 20) = σ := by
  funext c
  simp only [stN, sC_app]
  by_cases h : c = 20
  · subst h; simp
  · by_cases h1 : c = 15
    · subst h1; simp
    · simp [h, h1]
theorem X8_takeAway_eq (n : Nat) (σ : am_M) (M a : Nat) (hf : σ 15 64 = nI M) (hM : M ≤ 320) (ha : a < M) (hn : 320 < n) : X8_takeAway n σ (nI a) = some (stN σ (tkN (σ 15) M a) (mvT (σ 20) a (M - 1))) := by
  unfold X8_takeAway
  have h1 := takeAway_out n σ (σ 15) (σ 20) M a hf hM hn (M - (a + 1)) a n (by omega) (by omega) (Nat.le_refl _)
  have e1 : mvN (σ 15) (65 + 6 * a) (65 + 6 * a) = σ 15 := by
    funext x
    unfold mvN
    rw [if_neg (by omega)]
  have e2 : mvT (σ 20) a a = σ 20 := by
    funext x
    unfold mvT
    rw [if_neg (by omega)]
  rw [e1, e2, stN_self] at h1
  exact h1
/-- the WORDS stay alike when one is taken away -/
theorem rW_take {σw σ : am_M} {M a : Nat} (hr : rW σw σ M) (ha : a < M) : rW (sC (mvW σw a M) 0 (am_u (σw 0) 4 (nI (M - 1)))) (stN σ (tkN (σ 15) M a) (mvT (σ 20) a (M - 1))) (M - 1) := by
  obtain ⟨h0, h1, h2, h3⟩ := hr
  refine ⟨by omega, rfl, ?_, fun k hk => ?_⟩
  · rw [stN_a]
    unfold tkN zrN
    rw [if_neg (by omega)]
    exact if_pos rfl
  · have hN : ∀ j, j < 6 → tkN (σ 15) M a (65 + 6 * k + j) = if a ≤ k then σ 15 (65 + 6 * (k + 1) + j) else σ 15 (65 + 6 * k + j) := fun j hj => by
      unfold tkN zrN upd mvN
      rw [if_neg (by omega), if_neg (by omega)]
      by_cases hak : a ≤ k
      · rw [if_pos (by omega), if_pos hak]
        congr 1
        omega
      · rw [if_neg (by omega), if_neg hak]
    have hW : ∀ c, 1 ≤ c → c ≤ 4 → sC (mvW σw a M) 0 (am_u (σw 0) 4 (nI (M - 1))) c k = if a ≤ k then σw c (k + 1) else σw c k := fun c hc1 hc2 => by
      rw [sC_app, if_neg (by omega)]
      unfold mvW
      rw [if_pos ⟨hc1, hc2⟩]
      show (if a ≤ k ∧ k + 1 < M then σw c (k + 1) else σw c k) = _
      by_cases hak : a ≤ k
      · rw [if_pos ⟨hak, by omega⟩, if_pos hak]
      · rw [if_neg (fun q => hak q.1), if_neg hak]
    by_cases hak : a ≤ k
    · obtain ⟨bw, to, lo, be, g1, g2, g3, g4, e1, e2, e3, e4, e5, e6, e7⟩ := h3 (k + 1) (by omega)
      refine ⟨bw, to, lo, be, g1, g2, g3, g4, ?_, ?_, ?_, ?_, ?_, ?_, ?_⟩
      · rw [stN_a, hN 0 (by omega), if_pos hak]; exact e1
      · rw [stN_a, hN 1 (by omega), if_pos hak]; exact e2
      · rw [stN_a, hN 4 (by omega), if_pos hak]; exact e3
      · rw [stN_a, hN 5 (by omega), if_pos hak]; exact e4
      · rw [hW 1 (by omega) (by omega), if_pos hak]; exact e5
      · rw [stN_a, hN 2 (by omega), hW 2 (by omega) (by omega), if_pos hak, if_pos hak]; exact e6
      · rw [stN_a, hN 3 (by omega), hW 3 (by omega) (by omega), if_pos hak, if_pos hak]; exact e7
    · obtain ⟨bw, to, lo, be, g1, g2, g3, g4, e1, e2, e3, e4, e5, e6, e7⟩ := h3 k (by omega)
      refine ⟨bw, to, lo, be, g1, g2, g3, g4, ?_, ?_, ?_, ?_, ?_, ?_, ?_⟩
      · rw [stN_a, hN 0 (by omega), if_neg hak]; exact e1
      · rw [stN_a, hN 1 (by omega), if_neg hak]; exact e2
      · rw [stN_a, hN 4 (by omega), if_neg hak]; exact e3
      · rw [stN_a, hN 5 (by omega), if_neg hak]; exact e4
      · rw [hW 1 (by omega) (by omega), if_neg hak]; exact e5
      · rw [stN_a, hN 2 (by omega), hW 2 (by omega) (by omega), if_neg hak, if_neg hak]; exact e6
      · rw [stN_a, hN 3 (by omega), hW 3 (by omega) (by omega), if_neg hak, if_neg hak]; exact e7
