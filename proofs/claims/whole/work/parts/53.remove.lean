/-- Words.copy -/
def cpW (σ : am_M) (s t : Nat) : am_M := fun c => if 1 ≤ c ∧ c ≤ 4 then upd (σ c) t (σ c s) else σ c
theorem X6_copy_eq {σ : am_M} {s t : Nat} (hs : s < 320) (ht : t < 320) : X6_copy σ (nI s) (nI t) = some (cpW σ s t) := by
  unfold X6_copy
  rw [jat_nI hs (by omega), jat_nI hs (by omega), jat_nI hs (by omega), jat_nI hs (by omega), jput_nI ht (by omega), jput_nI ht (by omega), jput_nI ht (by omega), jput_nI ht (by omega)]
  congr 1
  funext c
  match c with
  | 0 => rfl
  | 1 => rfl
  | 2 => rfl
  | 3 => rfl
  | 4 => rfl
  | c + 5 => exact (if_neg (by omega)).symm
/-- the places from a on to t moved one down -/
def mvW (σ : am_M) (a t : Nat) : am_M := fun c => if 1 ≤ c ∧ c ≤ 4 then (fun k => if a ≤ k ∧ k + 1 < t then σ c (k + 1) else σ c k) else σ c
theorem mvW_step {σ : am_M} {a t : Nat} (h : a ≤ t) : cpW (mvW σ a (t + 1)) (t + 1) t = mvW σ a (t + 2) := by
  funext c
  unfold cpW mvW
  by_cases hc : 1 ≤ c ∧ c ≤ 4
  · simp only [hc, and_self, if_true]
    funext k
    unfold upd
    by_cases hk : k = t
    · subst hk
      rw [if_pos rfl, if_neg (by omega), if_pos (by omega)]
    · rw [if_neg hk]
      show (if a ≤ k ∧ k + 1 < t + 1 then σ c (k + 1) else σ c k) = _
      by_cases h1 : a ≤ k ∧ k + 1 < t + 1
      · rw [if_pos h1, if_pos (by omega)]
      · rw [if_neg h1, if_neg (by omega)]
  · simp only [hc, if_false]
theorem mvW_0 {σ : am_M} {a t : Nat} : mvW σ a t 0 = σ 0 := rfl
theorem X6_remove_loop (n : Nat) (σ : am_M) (M a : Nat) (hM : σ 0 4 = nI M) (hM3 : M ≤ 320) : ∀ (k t K : Nat), t + 1 + k = M → k < K → a ≤ t → X6_remove_L17 n K (mvW σ a (t + 1)) (nI (t + 1)) = some (sC (mvW σ a M) 0 (am_u (σ 0) 4 (nI M - 1))) := by
  intro k
  induction k with
  | zero =>
    intro t K ht hK ha
    obtain ⟨K, rfl⟩ : ∃ J, K = J + 1 := ⟨K - 1, by omega⟩
    simp only [X6_remove_L17, X6_remove_B17]
    rw [mvW_0, hM, if_pos (by rw [pu_le (by omega) (by omega)]; omega)]
    have e : M = t + 1 := by omega
    subst e
    rfl
  | succ k ih =>
    intro t K ht hK ha
    obtain ⟨K, rfl⟩ : ∃ J, K = J + 1 := ⟨K - 1, by omega⟩
    simp only [X6_remove_L17, X6_remove_B17]
    rw [mvW_0, hM, if_neg (by rw [pu_le (by omega) (by omega)]; omega), nI_pred, X6_copy_eq (by omega) (by omega), mvW_step ha, nI_1]
    exact ih (t + 1) K (by omega) (by omega) (by omega)
/-- Words.remove -/
theorem X6_remove_eq (n : Nat) (σ : am_M) (M a : Nat) (hM : σ 0 4 = nI M) (hM3 : M ≤ 320) (ha : a < M) (hn : 320 < n) : X6_remove n σ (nI a) = some (sC (mvW σ a M) 0 (am_u (σ 0) 4 (nI (M - 1)))) := by
  unfold X6_remove
  rw [if_neg (pu_nlt0 (by omega)), hM, if_pos (by rw [pu_lt (by omega) (by omega)]; exact ha), nI_1]
  have e0 : σ = mvW σ a (a + 1) := by
    funext c
    unfold mvW
    by_cases hc : 1 ≤ c ∧ c ≤ 4
    · rw [if_pos hc]
      funext k
      rw [if_neg (by omega)]
    · rw [if_neg hc]
  have h1 := X6_remove_loop n σ M a hM hM3 (M - (a + 1)) a n (by omega) (by omega) (Nat.le_refl _)
  rw [← e0] at h1
  rw [h1]
  obtain ⟨m, rfl⟩ : ∃ m, M = m + 1 := ⟨M - 1, by omega⟩
  rw [nI_pred]
  rfl
