/-! PURE ROWS over the mirrors -/
theorem pu_nlt0 {i : Nat} (h : i < 2 ^ 31) : ¬ nI i < 0 := by
  rw [Int32.lt_iff_toInt_lt, nI_toInt h, Int32.toInt_zero]
  omega
theorem pu_le {a b : Nat} (ha : a < 2 ^ 31) (hb : b < 2 ^ 31) : (nI a ≤ nI b) = (a ≤ b) := propext (nI_leI ha hb)
theorem pu_lt {a b : Nat} (ha : a < 2 ^ 31) (hb : b < 2 ^ 31) : (nI a < nI b) = (a < b) := propext (nI_ltI ha hb)
theorem pu_eq {a b : Nat} (ha : a < 2 ^ 31) (hb : b < 2 ^ 31) : (nI a = nI b) = (a = b) := propext (nI_eq ha hb)
theorem jat_nI {n i : Nat} {f : Nat → Int32} (h : i < n) (hn : n < 2 ^ 31) : jat n f (nI i) = f i := by
  unfold jat
  rw [if_neg (pu_nlt0 (by omega)), if_neg (by rw [show Int32.ofNat n = nI n from rfl, pu_le hn (by omega)]; omega), nI_clamp (by omega)]
theorem jput_nI {n i : Nat} {f : Nat → Int32} {v : Int32} (h : i < n) (hn : n < 2 ^ 31) : jput n f (nI i) v = upd f i v := by
  unfold jput
  rw [if_neg (pu_nlt0 (by omega)), if_neg (by rw [show Int32.ofNat n = nI n from rfl, pu_le hn (by omega)]; omega), nI_clamp (by omega)]
/-- Words.first: the first place from i on, k places -/
def fiW (σ : am_M) (p m : Int32) : Nat → Nat → Int32
  | _, 0 => -1
  | i, k + 1 => if X6_pairAt σ (nI i) = p ∧ σ 2 i = m then nI i else fiW σ p m (i + 1) k
theorem X6_first_loop (n : Nat) (σ : am_M) (M : Nat) (hM : σ 0 4 = nI M) (hM3 : M ≤ 320) (p m : Int32) : ∀ (k i K : Nat), i + k = M → k < K → X6_first_L10 n σ K m p (nI i) = some (fiW σ p m i k) := by
  intro k
  induction k with
  | zero =>
    intro i K hi hK
    obtain ⟨K, rfl⟩ : ∃ J, K = J + 1 := ⟨K - 1, by omega⟩
    simp only [X6_first_L10, X6_first_B10, fiW]
    rw [if_pos (by rw [hM, pu_le (by omega) (by omega)]; omega)]
  | succ k ih =>
    intro i K hi hK
    obtain ⟨K, rfl⟩ : ∃ J, K = J + 1 := ⟨K - 1, by omega⟩
    simp only [X6_first_L10, X6_first_B10, X6_first_J46, fiW]
    rw [if_neg (by rw [hM, pu_le (by omega) (by omega)]; omega), jat_nI (by omega) (by omega), nI_1, ih (i + 1) K (by omega) (by omega)]
    by_cases h1 : X6_pairAt σ (nI i) = p
    · by_cases h2 : σ 2 i = m
      · rw [if_pos h1, if_pos h2, if_pos ⟨h1, h2⟩]
      · rw [if_pos h1, if_neg h2, if_neg (fun q => h2 q.2)]
    · rw [if_neg h1, if_neg (fun q => h1 q.1)]
theorem X6_first_eq (n : Nat) (σ : am_M) (M : Nat) (hM : σ 0 4 = nI M) (hM3 : M ≤ 320) (hn : 320 < n) (s r m : Int32) : X6_first n σ s r m = some (fiW σ (s * 8 + r) m 0 M) := by
  unfold X6_first
  rw [← nI_0]
  exact X6_first_loop n σ M hM hM3 _ _ M 0 n (by omega) (by omega)
