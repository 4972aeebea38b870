/-! A TEXT IS READ: the reference takes the new script over -/
def cpI (R X : am_M) (s : Nat) : Prop := (∀ c, (c < 6 ∨ 13 < c) → X c = R c) ∧ (∀ c, c = 6 ∨ (9 ≤ c ∧ c ≤ 13) → (∀ j, j < s → X c j = R c (40 + j)) ∧ ∀ j, 40 ≤ j → X c j = R c j) ∧ (∀ j, j < 3 * s → X 7 j = R 7 (120 + j) ∧ X 8 j = R 8 (120 + j)) ∧ ∀ j, 120 ≤ j → X 7 j = R 7 j ∧ X 8 j = R 8 j
section COPY
variable {n : Nat} {R : am_M}
theorem l207 {s : Nat} (hs : s < 40) (kont : am_M → Int32 → Option (Int32 × am_M)) : ∀ (d w K : Nat) (X : am_M), w + d = 3 → d < K → (∀ j, 120 ≤ j → X 7 j = R 7 j ∧ X 8 j = R 8 j) → (∀ j, j < 3 * s + w → X 7 j = R 7 (120 + j) ∧ X 8 j = R 8 (120 + j)) → ∃ X', X8_text_L207 n kont K X (nI s) (nI w) = kont X' (nI (s + 1)) ∧ (∀ c, c ≠ 7 → c ≠ 8 → X' c = X c) ∧ (∀ j, 120 ≤ j → X' 7 j = R 7 j ∧ X' 8 j = R 8 j) ∧ (∀ j, j < 3 * s + 3 → X' 7 j = R 7 (120 + j) ∧ X' 8 j = R 8 (120 + j)) := by
  intro d
  induction d with
  | zero =>
    intro w K X hw hK h1 h2
    obtain ⟨K, rfl⟩ : ∃ J, K = J + 1 := ⟨K - 1, by omega⟩
    have e : w = 3 := by omega
    subst e
    refine ⟨X, ?_, fun _ _ _ => rfl, h1, h2⟩
    rw [X8_text_L207]
    simp only [X8_text_B207]
    rw [if_pos (show (3 : Int32) ≤ nI 3 by decide), nI_1]
  | succ d ih =>
    intro w K X hw hK h1 h2
    obtain ⟨K, rfl⟩ : ∃ J, K = J + 1 := ⟨K - 1, by omega⟩
    have e1 : (3 : Int32) * (40 + nI s) + nI w = nI (120 + (3 * s + w)) := by
      rw [show (40 : Int32) + nI s = nI (40 + s) from nI_add 40 s, show (3 : Int32) * nI (40 + s) = nI (3 * (40 + s)) from pk_mul 3 (40 + s), nI_add, show 3 * (40 + s) + w = 120 + (3 * s + w) by omega]
    have e2 : (3 : Int32) * nI s + nI w = nI (3 * s + w) := by
      rw [show (3 : Int32) * nI s = nI (3 * s) from pk_mul 3 s, nI_add]
    have v7 : ∀ j, (sC (sC X 7 (upd (X 7) (3 * s + w) (X 7 (120 + (3 * s + w))))) 8 (upd (X 8) (3 * s + w) (X 8 (120 + (3 * s + w))))) 7 j = if j = 3 * s + w then X 7 (120 + (3 * s + w)) else X 7 j := fun j => by
      show upd (X 7) (3 * s + w) (X 7 (120 + (3 * s + w))) j = _
      by_cases q : j = 3 * s + w
      · rw [if_pos q, q, upd_eq]
      · rw [if_neg q, upd_ne q]
    have v8 : ∀ j, (sC (sC X 7 (upd (X 7) (3 * s + w) (X 7 (120 + (3 * s + w))))) 8 (upd (X 8) (3 * s + w) (X 8 (120 + (3 * s + w))))) 8 j = if j = 3 * s + w then X 8 (120 + (3 * s + w)) else X 8 j := fun j => by
      show upd (X 8) (3 * s + w) (X 8 (120 + (3 * s + w))) j = _
      by_cases q : j = 3 * s + w
      · rw [if_pos q, q, upd_eq]
      · rw [if_neg q, upd_ne q]
    obtain ⟨X', i1, i2, i3, i4⟩ := ih (w + 1) K (sC (sC X 7 (upd (X 7) (3 * s + w) (X 7 (120 + (3 * s + w))))) 8 (upd (X 8) (3 * s + w) (X 8 (120 + (3 * s + w))))) (by omega) (by omega) (fun j hj => by
      rw [v7, v8, if_neg (by omega), if_neg (by omega)]
      exact h1 j hj) (fun j hj => by
      rw [v7, v8]
      by_cases q : j = 3 * s + w
      · rw [if_pos q, if_pos q, q]
        exact h1 _ (by omega)
      · rw [if_neg q, if_neg q]
        exact h2 j (by omega))
    refine ⟨X', ?_, fun c h7 h8 => (i2 c h7 h8).trans (by rw [sC_ne h8, sC_ne h7]), i3, i4⟩
    rw [X8_text_L207]
    simp only [X8_text_B207]
    rw [if_neg (show ¬ (3 : Int32) ≤ nI w from fun y => by have := (nI_leI (a := 3) (by omega) (by omega)).mp y; omega), e1, e2, if_neg (pu_g (n := 240) (by omega) (by omega)), if_neg (pu_g (n := 240) (by omega) (by omega)), if_neg (pu_g (n := 240) (by omega) (by omega)), if_neg (pu_g (n := 240) (by omega) (by omega)), nI_clamp (by omega), nI_clamp (by omega), nI_1]
    exact i1
theorem l105 (hn : 2200 < n) {N : Nat} (hN : N ≤ 40) (h40 : R 4 0 = nI N) : ∀ (d s K : Nat) (X : am_M), s + d = N → d < K → cpI R X s → ∃ X', X8_text_L105 n K X (nI s) = X8_text_L272 n n X' 0 ∧ cpI R X' N := by
  intro d
  induction d with
  | zero =>
    intro s K X hs hK h
    obtain ⟨K, rfl⟩ : ∃ J, K = J + 1 := ⟨K - 1, by omega⟩
    have e : s = N := by omega
    subst e
    refine ⟨X, ?_, h⟩
    have h4 : X 4 (0 : Int32).toNatClampNeg = nI s := by rw [h.1 4 (by omega)]; exact h40
    rw [X8_text_L105]
    simp only [X8_text_B105]
    rw [h4, if_pos (Int32.le_refl _)]
  | succ d ih =>
    intro s K X hs hK h
    obtain ⟨K, rfl⟩ : ∃ J, K = J + 1 := ⟨K - 1, by omega⟩
    obtain ⟨h1, h2, h3, h4⟩ := h
    have h40' : X 4 (0 : Int32).toNatClampNeg = nI N := by rw [h1 4 (by omega)]; exact h40
    obtain ⟨Y, hY⟩ : ∃ Y, Y = sC (sC (sC (sC (sC (sC X 6 (upd (X 6) s (X 6 (40 + s)))) 9 (upd (X 9) s (X 9 (40 + s)))) 10 (upd (X 10) s (X 10 (40 + s)))) 11 (upd (X 11) s (X 11 (40 + s)))) 12 (upd (X 12) s (X 12 (40 + s)))) 13 (upd (X 13) s (X 13 (40 + s))) := ⟨_, rfl⟩
    have y7 : Y 7 = X 7 := by rw [hY] <;> rfl
    have y8 : Y 8 = X 8 := by rw [hY] <;> rfl
    have yc : ∀ c, c = 6 ∨ (9 ≤ c ∧ c ≤ 13) → Y c = upd (X c) s (X c (40 + s)) := fun c hc => by
      rcases (show c = 6 ∨ c = 9 ∨ c = 10 ∨ c = 11 ∨ c = 12 ∨ c = 13 by omega) with rfl | rfl | rfl | rfl | rfl | rfl <;> rw [hY] <;> rfl
    have yo : ∀ c, c ≠ 6 → ¬ (9 ≤ c ∧ c ≤ 13) → Y c = X c := fun c h6 h9 => by rw [hY, sC_ne (by omega), sC_ne (by omega), sC_ne (by omega), sC_ne (by omega), sC_ne (by omega), sC_ne h6]
    obtain ⟨X1, i1, i2, i3, i4⟩ := l207 (n := n) (R := R) (s := s) (by omega) (X8_text_L105 n K) 3 0 n Y (by omega) (by omega) (fun j hj => by rw [y7, y8]; exact h4 j hj) (fun j hj => by rw [y7, y8]; exact h3 j (by omega))
    obtain ⟨X', j1, j2⟩ := ih (s + 1) K X1 (by omega) (by omega) ⟨fun c hc => by rw [i2 c (by omega) (by omega), yo c (by omega) (by omega)]; exact h1 c hc, fun c hc => by
      rw [i2 c (by omega) (by omega), yc c hc]
      refine ⟨fun j hj => ?_, fun j hj => ?_⟩
      · by_cases q : j = s
        · rw [q, upd_eq]
          exact (h2 c hc).2 _ (by omega)
        · rw [upd_ne q]
          exact (h2 c hc).1 j (by omega)
      · rw [upd_ne (by omega)]
        exact (h2 c hc).2 j hj, fun j hj => i4 j (by omega), i3⟩
    refine ⟨X', ?_, j2⟩
    rw [X8_text_L105]
    simp only [X8_text_B105]
    rw [h40', if_neg (show ¬ nI N ≤ nI s from fun y => by have := (nI_leI (by omega) (by omega)).mp y; omega), show (40 : Int32) + nI s = nI (40 + s) from nI_add 40 s]
    rw [nI_clamp (show 40 + s < 2 ^ 31 by omega), nI_clamp (show s < 2 ^ 31 by omega)]
    have g80 : ¬ (nI (40 + s) < 0 ∨ 80 ≤ 40 + s) := pu_gn (n := 80) (by omega) (by omega)
    have g80' : ¬ (nI s < 0 ∨ 80 ≤ s) := pu_gn (n := 80) (by omega) (by omega)
    rw [if_neg g80, if_neg g80', if_neg g80, if_neg g80', if_neg g80, if_neg g80', if_neg g80, if_neg g80', if_neg g80, if_neg g80', if_neg g80, if_neg g80', ← hY]
    rw [nI_0] at i1
    rw [i1]
    exact j1
theorem l272 {q : Nat} (hq : q ≤ 1080) : ∀ (d i K : Nat) (X : am_M), i + d = q → d < K → X 0 21 = nI q → (∀ j, j < i → X 5 j = R 5 (1080 + j)) → (∀ j, 1080 ≤ j → X 5 j = R 5 j) → ∃ X', X8_text_L272 n K X (nI i) = some (0, X') ∧ (∀ c, c ≠ 0 → c ≠ 5 → X' c = X c) ∧ X' 0 = am_u (am_u (X 0) 7 (X 0 7 + 1)) 8 (X 0 8 + 1) ∧ ∀ j, j < q → X' 5 j = R 5 (1080 + j) := by
  intro d
  induction d with
  | zero =>
    intro i K X hi hK h1 h2 h3
    obtain ⟨K, rfl⟩ : ∃ J, K = J + 1 := ⟨K - 1, by omega⟩
    have e : i = q := by omega
    subst e
    refine ⟨sC X 0 (am_u (am_u (X 0) 7 (X 0 7 + 1)) 8 (X 0 8 + 1)), ?_, fun c h0 h5 => sC_ne h0, rfl, h2⟩
    rw [X8_text_L272]
    simp only [X8_text_B272]
    rw [h1, if_pos (Int32.le_refl _)]
  | succ d ih =>
    intro i K X hi hK h1 h2 h3
    obtain ⟨K, rfl⟩ : ∃ J, K = J + 1 := ⟨K - 1, by omega⟩
    obtain ⟨X', i1, i2, i3, i4⟩ := ih (i + 1) K (sC X 5 (upd (X 5) i (X 5 (1080 + i)))) (by omega) (by omega) h1 (fun j hj => by
      show upd (X 5) i (X 5 (1080 + i)) j = _
      by_cases y : j = i
      · rw [y, upd_eq]
        exact h3 _ (by omega)
      · rw [upd_ne y]
        exact h2 j (by omega)) (fun j hj => by
      show upd (X 5) i (X 5 (1080 + i)) j = _
      rw [upd_ne (by omega)]
      exact h3 j hj)
    refine ⟨X', ?_, fun c h0 h5 => (i2 c h0 h5).trans (sC_ne h5), i3, i4⟩
    rw [X8_text_L272]
    simp only [X8_text_B272]
    rw [h1, if_neg (show ¬ nI q ≤ nI i from fun y => by have := (nI_leI (by omega) (by omega)).mp y; omega), show (1080 : Int32) + nI i = nI (1080 + i) from nI_add 1080 i, if_neg (pu_g (n := 2160) (by omega) (by omega)), if_neg (pu_g (n := 2160) (by omega) (by omega)), nI_clamp (by omega), nI_clamp (by omega), nI_1]
    exact i1
end COPY
