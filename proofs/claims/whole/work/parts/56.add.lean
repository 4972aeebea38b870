/-- the places from t on to M moved one up -/
def upW (σ : am_M) (M t : Nat) : am_M := fun c => if 1 ≤ c ∧ c ≤ 4 then (fun k => if t < k ∧ k ≤ M then σ c (k - 1) else σ c k) else σ c
theorem upW_step {σ : am_M} {M t : Nat} (h : t + 1 ≤ M) : cpW (upW σ M (t + 1)) t (t + 1) = upW σ M t := by
  funext c
  unfold cpW upW
  by_cases hc : 1 ≤ c ∧ c ≤ 4
  · simp only [hc, and_self, if_true]
    funext k
    unfold upd
    by_cases hk : k = t + 1
    · subst hk
      rw [if_pos rfl, if_neg (by omega), if_pos (by omega)]
      rfl
    · rw [if_neg hk]
      show (if t + 1 < k ∧ k ≤ M then σ c (k - 1) else σ c k) = _
      by_cases h1 : t + 1 < k ∧ k ≤ M
      · rw [if_pos h1, if_pos (by omega)]
      · rw [if_neg h1, if_neg (by omega)]
  · simp only [hc, if_false]
/-- where a WORD of a pair comes to lie -/
def ipos (σ : am_M) (pr : Int32) : Nat → Nat
  | 0 => 0
  | i + 1 => if X6_pairAt σ (nI i) ≤ pr then i + 1 else ipos σ pr i
theorem ipos_le (σ : am_M) (pr : Int32) : ∀ t, ipos σ pr t ≤ t := by
  intro t
  induction t with
  | zero => exact Nat.le_refl _
  | succ t ih =>
    unfold ipos
    by_cases h : X6_pairAt σ (nI t) ≤ pr
    · rw [if_pos h]; exact Nat.le_refl _
    · rw [if_neg h]; omega
def insW (σ : am_M) (M p : Nat) (tag mk vl th : Int32) : am_M := sC (sC (sC (sC (sC (upW σ M p) 0 (am_u (σ 0) 4 (nI (M + 1)))) 1 (upd (upW σ M p 1) p tag)) 2 (upd (upW σ M p 2) p mk)) 3 (upd (upW σ M p 3) p vl)) 4 (upd (upW σ M p 4) p th)
theorem X6_add_end (n : Nat) (σ : am_M) (M p : Nat) (hM : σ 0 4 = nI M) (hM3 : M < 320) (hp : p ≤ M) (l1 l2 l3 l4 l5 : Int32) : X6_add_J50 n (upW σ M p) l1 l2 l3 l4 l5 (nI p) = some (insW σ M p ((l1 <<< 8) ||| l4) l2 l3 l5) := by
  unfold X6_add_J50
  rw [jput_nI (by omega) (by omega), jput_nI (by omega) (by omega), jput_nI (by omega) (by omega), jput_nI (by omega) (by omega), show upW σ M p 0 = σ 0 from rfl, hM, nI_1]
  rfl
theorem X6_add_loop (n : Nat) (σ : am_M) (M : Nat) (hM : σ 0 4 = nI M) (hM3 : M < 320) (l1 l2 l3 l4 l5 : Int32) : ∀ (t K : Nat), t < K → t ≤ M → X6_add_L17 n K (upW σ M t) l1 l2 l3 l4 l5 (nI t) = some (insW σ M (ipos σ l1 t) ((l1 <<< 8) ||| l4) l2 l3 l5) := by
  intro t
  induction t with
  | zero =>
    intro K hK ht
    obtain ⟨K, rfl⟩ : ∃ J, K = J + 1 := ⟨K - 1, by omega⟩
    simp only [X6_add_L17, X6_add_B17, ipos]
    rw [if_pos (show nI 0 ≤ 0 by decide)]
    exact X6_add_end n σ M 0 hM hM3 ht l1 l2 l3 l4 l5
  | succ t ih =>
    intro K hK ht
    obtain ⟨K, rfl⟩ : ∃ J, K = J + 1 := ⟨K - 1, by omega⟩
    simp only [X6_add_L17, X6_add_B17, ipos]
    have e1 : X6_pairAt (upW σ M (t + 1)) (nI t) = X6_pairAt σ (nI t) := by
      unfold X6_pairAt
      rw [jat_nI (by omega) (by omega), jat_nI (by omega) (by omega)]
      show (if t + 1 < t ∧ t ≤ M then σ 1 (t - 1) else σ 1 t) >>> 8 = _
      rw [if_neg (by omega)]
    rw [if_neg (show ¬ nI (t + 1) ≤ 0 from nI_nle (by omega) (by omega)), nI_pred, e1]
    by_cases h : X6_pairAt σ (nI t) ≤ l1
    · rw [if_pos h, if_pos h]
      exact X6_add_end n σ M (t + 1) hM hM3 ht l1 l2 l3 l4 l5
    · rw [if_neg h, if_neg h, X6_copy_eq (by omega) (by omega), upW_step ht, show nI (t + 1) + (-1) = nI t from by rw [show nI (t + 1) + (-1) = nI (t + 1) - 1 from (Int32.sub_eq_add_neg _ _).symm, nI_pred]]
      exact ih K (by omega) (by omega)
/-- Words.add -/
theorem X6_add_eq (n : Nat) (σ : am_M) (M : Nat) (hM : σ 0 4 = nI M) (hM3 : M < 320) (hn : 320 < n) (l1 l2 l3 l4 l5 : Int32) : X6_add n σ l1 l2 l3 l4 l5 = some (insW σ M (ipos σ l1 M) ((l1 <<< 8) ||| l4) l2 l3 l5) := by
  unfold X6_add
  rw [hM, if_pos (show nI M < 320 by rw [show (320 : Int32) = nI 320 from rfl, pu_lt (by omega) (by omega)]; exact hM3)]
  have e0 : σ = upW σ M M := by
    funext c
    unfold upW
    by_cases hc : 1 ≤ c ∧ c ≤ 4
    · rw [if_pos hc]
      funext k
      rw [if_neg (by omega)]
    · rw [if_neg hc]
  have h1 := X6_add_loop n σ M hM hM3 l1 l2 l3 l4 l5 M n (by omega) (Nat.le_refl _)
  rw [← e0] at h1
  exact h1
