theorem sC_app (σ : am_M) (c : Nat) (g : Nat → Int32) (k : Nat) : sC σ c g k = if k = c then g else σ k := by
  by_cases h : k = c
  · subst h
    rw [if_pos rfl]
    show (match Nat.beq k k with | true => g | false => σ k) = g
    rw [show Nat.beq k k = true from Nat.beq_refl k]
  · rw [if_neg h]
    show (match Nat.beq k c with | true => g | false => σ k) = σ k
    rw [show Nat.beq k c = false from by
      cases hb : Nat.beq k c with
      | false => rfl
      | true => exact absurd (Nat.eq_of_beq_eq_true hb) h]
/-- the reference's contents but 'now' and 'theres' -/
def stN (σ : am_M) (F G : Nat → Int32) : am_M := sC (sC σ 15 F) 20 G
theorem stN_15 {σ : am_M} {F G F' : Nat → Int32} : sC (stN σ F G) 15 F' = stN σ F' G := by
  funext c
  simp only [stN, sC_app]
  by_cases h1 : c = 15
  · subst h1; simp
  · simp [h1]
theorem stN_20 {σ : am_M} {F G G' : Nat → Int32} : sC (stN σ F G) 20 G' = stN σ F G' := by
  funext c
  simp only [stN, sC_app]
  by_cases h1 : c = 20
  · subst h1; simp
  · simp [h1]
theorem stN_a {σ : am_M} {F G : Nat → Int32} : stN σ F G 15 = F := rfl
theorem stN_b {σ : am_M} {F G : Nat → Int32} : stN σ F G 20 = G := rfl
def mvN (f : Nat → Int32) (lo hi : Nat) : Nat → Int32 := fun x => if lo ≤ x ∧ x < hi then f (x + 6) else f x
def mvT (g : Nat → Int32) (a t : Nat) : Nat → Int32 := fun k => if a ≤ k ∧ k < t then g (k + 1) else g k
theorem mvN_step {f : Nat → Int32} {lo hi : Nat} (h : lo ≤ hi) : upd (mvN f lo hi) hi (mvN f lo hi (hi + 6)) = mvN f lo (hi + 1) := by
  funext x
  unfold upd mvN
  by_cases hx : x = hi
  · subst hx
    rw [if_pos rfl, if_neg (by omega), if_pos (by omega)]
  · rw [if_neg hx]
    by_cases h1 : lo ≤ x ∧ x < hi
    · rw [if_pos h1, if_pos (by omega)]
    · rw [if_neg h1, if_neg (by omega)]
theorem mvT_step {g : Nat → Int32} {a t : Nat} (h : a ≤ t) : upd (mvT g a t) t (mvT g a t (t + 1)) = mvT g a (t + 1) := by
  funext x
  unfold upd mvT
  by_cases hx : x = t
  · subst hx
    rw [if_pos rfl, if_neg (by omega), if_pos (by omega)]
  · rw [if_neg hx]
    by_cases h1 : a ≤ x ∧ x < t
    · rw [if_pos h1, if_pos (by omega)]
    · rw [if_neg h1, if_neg (by omega)]
theorem pu_wA (k : Nat) : X8_wordAt (nI k) = nI (65 + 6 * k) := by
  unfold X8_wordAt
  rw [show (65 : Int32) = nI 65 from rfl, show (6 : Int32) = nI 6 from rfl, pk_mul, nI_add]
theorem takeAway_in (n : Nat) (kont2 : am_M → Int32 → Option am_M) (σ : am_M) (f G : Nat → Int32) (lo t : Nat) (ht : t + 1 < 320) (hlo : lo ≤ 65 + 6 * t) : ∀ (k j K : Nat), j + k = 6 → k < K → X8_takeAway_L20 n kont2 K (stN σ (mvN f lo (65 + 6 * t + j)) G) (nI t) (nI (65 + 6 * t)) (nI j) = kont2 (stN σ (mvN f lo (65 + 6 * (t + 1))) (upd G t (G (t + 1)))) (nI (t + 1)) := by
  intro k
  induction k with
  | zero =>
    intro j K hj hK
    obtain ⟨K, rfl⟩ : ∃ J, K = J + 1 := ⟨K - 1, by omega⟩
    simp only [X8_takeAway_L20, X8_takeAway_B20]
    rw [if_pos (show (6 : Int32) ≤ nI j by rw [show (6 : Int32) = nI 6 from rfl, pu_le (by omega) (by omega)]; omega), nI_1, if_neg (pu_g (n := 321) (by omega) (by omega)), if_neg (pu_g (n := 321) (by omega) (by omega)), stN_b, stN_20, nI_clamp (by omega), nI_clamp (by omega)]
    congr 2
    have : j = 6 := by omega
    subst this
    rfl
  | succ k ih =>
    intro j K hj hK
    obtain ⟨K, rfl⟩ : ∃ J, K = J + 1 := ⟨K - 1, by omega⟩
    simp only [X8_takeAway_L20, X8_takeAway_B20]
    rw [if_neg (show ¬ (6 : Int32) ≤ nI j by rw [show (6 : Int32) = nI 6 from rfl, pu_le (by omega) (by omega)]; omega), show nI (65 + 6 * t) + 6 = nI (65 + 6 * t + 6) from nI_add _ 6, nI_add, nI_add, if_neg (pu_g (n := 1985) (by omega) (by omega)), if_neg (pu_g (n := 1985) (by omega) (by omega)), stN_a, stN_15, nI_clamp (by omega), nI_clamp (by omega), nI_1]
    rw [show 65 + 6 * t + 6 + j = 65 + 6 * t + j + 6 by omega, mvN_step (by omega)]
    exact ih (j + 1) K (by omega) (by omega)
def zrN (f : Nat → Int32) (b j : Nat) : Nat → Int32 := fun x => if b ≤ x ∧ x < b + j then 0 else f x
theorem zrN_step {f : Nat → Int32} {b j : Nat} : upd (zrN f b j) (b + j) 0 = zrN f b (j + 1) := by
  funext x
  unfold upd zrN
  by_cases hx : x = b + j
  · subst hx
    rw [if_pos rfl, if_pos (by omega)]
  · rw [if_neg hx]
    by_cases h1 : b ≤ x ∧ x < b + j
    · rw [if_pos h1, if_pos (by omega)]
    · rw [if_neg h1, if_neg (by omega)]
theorem takeAway_zr (n : Nat) (σ : am_M) (f G : Nat → Int32) (b : Nat) (hb : b + 6 ≤ 1985) : ∀ (k j K : Nat), j + k = 6 → k < K → X8_takeAway_L95 n K (stN σ (zrN f b j) G) (nI b) (nI j) = some (stN σ (zrN f b 6) G) := by
  intro k
  induction k with
  | zero =>
    intro j K hj hK
    obtain ⟨K, rfl⟩ : ∃ J, K = J + 1 := ⟨K - 1, by omega⟩
    simp only [X8_takeAway_L95, X8_takeAway_B95]
    rw [if_pos (show (6 : Int32) ≤ nI j by rw [show (6 : Int32) = nI 6 from rfl, pu_le (by omega) (by omega)]; omega)]
    have : j = 6 := by omega
    subst this
    rfl
  | succ k ih =>
    intro j K hj hK
    obtain ⟨K, rfl⟩ : ∃ J, K = J + 1 := ⟨K - 1, by omega⟩
    simp only [X8_takeAway_L95, X8_takeAway_B95]
    rw [if_neg (show ¬ (6 : Int32) ≤ nI j by rw [show (6 : Int32) = nI 6 from rfl, pu_le (by omega) (by omega)]; omega), nI_add, if_neg (pu_g (n := 1985) (by omega) (by omega)), stN_a, stN_15, nI_clamp (by omega), nI_1, zrN_step]
    exact ih (j + 1) K (by omega) (by omega)
