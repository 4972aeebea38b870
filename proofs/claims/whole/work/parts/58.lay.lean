def uN (f : Nat → Int32) (t M : Nat) : Nat → Int32 := fun x => if 65 + 6 * (t + 1) ≤ x ∧ x < 65 + 6 * (M + 1) then f (x - 6) else f x
def uT (g : Nat → Int32) (t M : Nat) : Nat → Int32 := fun k => if t < k ∧ k ≤ M then g (k - 1) else g k
def uNj (f : Nat → Int32) (t j M : Nat) : Nat → Int32 := fun x => if 65 + 6 * (t + 1) ≤ x ∧ x < 65 + 6 * (t + 1) + j then f (x - 6) else uN f (t + 1) M x
theorem uNj_step {f : Nat → Int32} {t j M : Nat} (hj : j < 6) : upd (uNj f t j M) (65 + 6 * t + 6 + j) (uNj f t j M (65 + 6 * t + j)) = uNj f t (j + 1) M := by
  funext x
  unfold upd uNj uN
  by_cases hx : x = 65 + 6 * t + 6 + j
  · subst hx
    rw [if_pos rfl, if_neg (by omega), if_neg (by omega), if_pos (by omega)]
    congr 1
    omega
  · rw [if_neg hx]
    by_cases h1 : 65 + 6 * (t + 1) ≤ x ∧ x < 65 + 6 * (t + 1) + j
    · rw [if_pos h1, if_pos (by omega)]
    · rw [if_neg h1, if_neg (show ¬ (65 + 6 * (t + 1) ≤ x ∧ x < 65 + 6 * (t + 1) + (j + 1)) by omega)]
theorem uNj_0 {f : Nat → Int32} {t M : Nat} : uNj f t 0 M = uN f (t + 1) M := by
  funext x
  unfold uNj
  rw [if_neg (by omega)]
theorem uNj_6 {f : Nat → Int32} {t M : Nat} (h : t + 1 ≤ M) : uNj f t 6 M = uN f t M := by
  funext x
  unfold uNj uN
  by_cases h1 : 65 + 6 * (t + 1) ≤ x ∧ x < 65 + 6 * (t + 1) + 6
  · rw [if_pos h1, if_pos (by omega)]
  · rw [if_neg h1]
    by_cases h2 : 65 + 6 * (t + 1 + 1) ≤ x ∧ x < 65 + 6 * (M + 1)
    · rw [if_pos h2, if_pos (by omega)]
    · rw [if_neg h2, if_neg (by omega)]
theorem uT_step {g : Nat → Int32} {t M : Nat} (h : t + 1 ≤ M) : upd (uT g (t + 1) M) (t + 1) (uT g (t + 1) M t) = uT g t M := by
  funext x
  unfold upd uT
  by_cases hx : x = t + 1
  · subst hx
    rw [if_pos rfl, if_neg (by omega), if_pos (by omega)]
    rfl
  · rw [if_neg hx]
    by_cases h1 : t + 1 < x ∧ x ≤ M
    · rw [if_pos h1, if_pos (by omega)]
    · rw [if_neg h1, if_neg (by omega)]
theorem nI_m1 (t : Nat) : nI (t + 1) + (-1) = nI t := by
  rw [show nI (t + 1) + (-1) = nI (t + 1) - 1 from (Int32.sub_eq_add_neg _ _).symm, nI_pred]
theorem lay_in (n : Nat) (kont13 : am_M → Int32 → Int32 → Int32 → Int32 → Option am_M) (σ : am_M) (f G : Nat → Int32) (t M : Nat) (ht : t + 1 ≤ M) (hM : M < 320) (l1 l2 l3 : Int32) : ∀ (k j K : Nat), j + k = 6 → k < K → X8_lay_L68 n kont13 K (stN σ (uNj f t j M) G) l1 l2 l3 (nI (t + 1)) (nI (65 + 6 * t)) (nI j) = kont13 (stN σ (uN f t M) (upd G (t + 1) (G t))) l1 l2 l3 (nI t) := by
  intro k
  induction k with
  | zero =>
    intro j K hj hK
    obtain ⟨K, rfl⟩ : ∃ J, K = J + 1 := ⟨K - 1, by omega⟩
    have hj6 : j = 6 := by omega
    subst hj6
    simp only [X8_lay_L68, X8_lay_B68]
    rw [if_pos (show (6 : Int32) ≤ nI 6 by decide), nI_pred, nI_m1, if_neg (pu_g (n := 321) (by omega) (by omega)), if_neg (pu_g (n := 321) (by omega) (by omega)), stN_b, stN_20, nI_clamp (by omega), nI_clamp (by omega), uNj_6 ht]
  | succ k ih =>
    intro j K hj hK
    obtain ⟨K, rfl⟩ : ∃ J, K = J + 1 := ⟨K - 1, by omega⟩
    simp only [X8_lay_L68, X8_lay_B68]
    rw [if_neg (show ¬ (6 : Int32) ≤ nI j by rw [show (6 : Int32) = nI 6 from rfl, pu_le (by omega) (by omega)]; omega), show nI (65 + 6 * t) + 6 = nI (65 + 6 * t + 6) from nI_add _ 6, nI_add, nI_add, if_neg (pu_g (n := 1985) (by omega) (by omega)), if_neg (pu_g (n := 1985) (by omega) (by omega)), stN_a, stN_15, nI_clamp (by omega), nI_clamp (by omega), nI_1, uNj_step (by omega)]
    exact ih (j + 1) K (by omega) (by omega)
/-- lay() finds add()'s place, and makes room there -/
theorem lay_out (n : Nat) (σw σ : am_M) (f g : Nat → Int32) (M : Nat) (hM : M < 320) (hn : 320 < n) (l1 l2 l3 : Int32) (hk : ∀ i, i < M → 8 * f (65 + 6 * i + 0) + f (65 + 6 * i + 1) = X6_pairAt σw (nI i)) : ∀ (t K : Nat), t < K → t ≤ M → X8_lay_L13 n K (stN σ (uN f t M) (uT g t M)) l1 l2 l3 (nI t) = X8_lay_J126 n (stN σ (uN f (ipos σw (8 * l1 + l3) t) M) (uT g (ipos σw (8 * l1 + l3) t) M)) l1 l2 l3 (nI (ipos σw (8 * l1 + l3) t)) := by
  intro t
  induction t with
  | zero =>
    intro K hK ht
    obtain ⟨K, rfl⟩ : ∃ J, K = J + 1 := ⟨K - 1, by omega⟩
    simp only [X8_lay_L13, X8_lay_B13, ipos]
    rw [if_pos (show nI 0 ≤ 0 by decide)]
  | succ t ih =>
    intro K hK ht
    obtain ⟨K, rfl⟩ : ∃ J, K = J + 1 := ⟨K - 1, by omega⟩
    simp only [X8_lay_L13, X8_lay_B13, ipos]
    have e0 : uN f (t + 1) M (65 + 6 * t + 0) = f (65 + 6 * t + 0) := if_neg (by omega)
    have e1 : uN f (t + 1) M (65 + 6 * t + 1) = f (65 + 6 * t + 1) := if_neg (by omega)
    rw [if_neg (show ¬ nI (t + 1) ≤ 0 from nI_nle (by omega) (by omega)), nI_pred, pu_w0, pu_w1, if_neg (pu_g (i := 65 + 6 * t + 0) (n := 1985) (by omega) (by omega)), if_neg (pu_g (i := 65 + 6 * t + 1) (n := 1985) (by omega) (by omega)), nI_clamp (by omega), nI_clamp (by omega), stN_a, e0, e1, hk t (by omega), pu_wA]
    by_cases h : X6_pairAt σw (nI t) ≤ 8 * l1 + l3
    · rw [if_pos h, if_neg (Int32.not_lt.mpr h)]
    · rw [if_neg h, if_pos (Int32.not_le.mp h)]
      have h1 := lay_in n (X8_lay_L13 n K) σ f (uT g (t + 1) M) t M ht hM l1 l2 l3 6 0 n (by omega) (by omega)
      rw [uNj_0, nI_0, uT_step ht] at h1
      rw [h1]
      exact ih K (by omega) (by omega)
