/-! EXPRs: both sides' answers are one -/
theorem sC_self (σ : am_M) (c : Nat) : sC σ c (σ c) = σ := by
  funext k
  rw [sC_app]
  by_cases h : k = c
  · rw [if_pos h, h]
  · rw [if_neg h]
theorem evL_agree (env : Int32 → Int32) : ∀ (L : List Int32) (st st' : Nat → Int32) (h : Nat), (∀ j, j < h → st j = st' j) → wfL L h → evL env L st h 0 = evL env L st' h 0 := by
  intro L
  induction L with
  | nil => intro st st' h ha hw; exact ha 0 hw
  | cons x r ih =>
    intro st st' h ha hw
    obtain ⟨-, hw⟩ := hw
    unfold evL
    by_cases hc : -7 ≤ x
    · rw [if_pos hc] at hw
      rw [if_pos hc, if_pos hc]
      refine ih _ _ _ (fun j hj => ?_) hw.2
      unfold upd
      by_cases e : j = h
      · rw [if_pos e, if_pos e]
      · rw [if_neg e, if_neg e]
        exact ha j (by omega)
    · rw [if_neg hc] at hw
      obtain ⟨w1, w2, w3⟩ := hw
      rw [if_neg hc, if_neg hc]
      refine ih _ _ _ (fun j hj => ?_) w3
      unfold upd
      rw [ha (h - 2) (by omega), ha (h - 1) (by omega)]
      by_cases e : j = h - 2
      · rw [if_pos e, if_pos e]
      · rw [if_neg e, if_neg e]
        exact ha j (by omega)
/-- what a STEP asks stands alike in both: the class's w-th, the reference's k-th -/
def rAsk (S σ : am_M) (s w k : Nat) : Prop := ∃ (L : List Int32) (p q z : Nat), S 17 (3 * s + w) = nI p ∧ S 11 9 = nI z ∧ z ≤ 900 ∧ p + L.length < z ∧ (∀ i, i < L.length → S 18 (p + i) = L.getD i 0) ∧ S 18 (p + L.length) = -20 ∧ wfL L 0 ∧ σ 7 (3 * s + k) = nI q ∧ σ 8 (3 * s + k) = nI (q + (encL L).length) ∧ q + (encL L).length ≤ 2160 ∧ (∀ i, i < (encL L).length → σ 5 (q + i) = (encL L).getD i 0) ∧ ∀ x ∈ L, okI x
theorem pu_ne1 {p : Nat} (h : p < 2 ^ 31) : ¬ nI p = -1 := by
  intro e
  have h1 := congrArg Int32.toInt e
  rw [nI_toInt h] at h1
  have h2 : (-1 : Int32).toInt = -1 := by decide
  rw [h2] at h1
  omega
theorem valueOf_eq {S σ : am_M} {m h : Nat} (hh : h < 8) (hr : rHd S σ m h) (hm : σ 0 3 = nI m) : ∀ (st : Nat → Int32) (v : Nat), v < 7 → X8_valueOf (sC σ 16 st) (nI h) (nI v) = some (X2_get S (nI h) (1 - (-1 - nI v))) := by
  intro st v hv
  have e1 : (1 : Int32) - (-1 - nI v) = nI (2 + v) := by
    rcases (show v = 0 ∨ v = 1 ∨ v = 2 ∨ v = 3 ∨ v = 4 ∨ v = 5 ∨ v = 6 by omega) with rfl | rfl | rfl | rfl | rfl | rfl | rfl <;> decide
  rw [e1, X2_get_eq hh (by omega)]
  obtain ⟨r0, r1, r2, r6, r7, r8, r9⟩ := hr
  unfold X8_valueOf
  by_cases h4 : v < 4
  · rw [if_neg (show ¬ (4 : Int32) ≤ nI v by rw [show (4 : Int32) = nI 4 from rfl, pu_le (by omega) (by omega)]; omega), show (2 : Int32) + nI v = nI (2 + v) from nI_add 2 v, X8_own_eq hh (by omega)]
    show some (σ 15 (8 * h + (2 + v))) = _
    have := r2 v h4
    rw [show 13 * h + (2 + v) = 13 * h + 2 + v by omega, this, show 8 * h + (2 + v) = 8 * h + 2 + v by omega]
  · rw [if_pos (show (4 : Int32) ≤ nI v by rw [show (4 : Int32) = nI 4 from rfl, pu_le (by omega) (by omega)]; omega)]
    rcases (show v = 4 ∨ v = 5 ∨ v = 6 by omega) with rfl | rfl | rfl
    · rw [if_pos (by decide), show 13 * h + (2 + 4) = 13 * h + 6 by omega, r6]
    · rw [if_neg (by decide), if_pos (by decide), show 13 * h + (2 + 5) = 13 * h + 7 by omega, r7]
      show some (σ 0 3) = _
      rw [hm]
    · rw [if_neg (by decide), if_neg (by decide), X8_o6 hh, show 13 * h + (2 + 6) = 13 * h + 8 by omega, r8]
      rfl
theorem ask_both (n : Nat) (hn : 2200 < n) {S σ : am_M} {N m h s w k : Nat} (hN : S 11 7 = nI N) (hN4 : N ≤ 40) (hs : s < N) (hw : w < 3) (hk : k < 3) (hh : h < 8) (hr : rHd S σ m h) (hm : σ 0 3 = nI m) (hat : σ 15 (8 * h + 0) = nI s) (ha : rAsk S σ s w k) : ∃ v st st', X2_ask n S (nI h) (nI s) (nI w) = some (v, sC S 7 st) ∧ X8_asked n σ (nI h) (nI k) = some (v, sC σ 16 st') := by
  obtain ⟨L, p, q, z, a1, a2, a3, a4, a5, a6, a7, a8, a9, a10, a11, a12⟩ := ha
  have A := ask_loop n S (nI h) z a2 a3 L p 0 n (S 7) (by omega) a4 a5 a6 a7
  have B := asked_loop n σ h (3 * s + k) (q + (encL L).length) (by omega) a9 a10 (fun x => X2_get S (nI h) (1 - x)) (valueOf_eq hh hr hm) L q 0 n (σ 16) (by omega) rfl a11 a12 a7
  rw [sC_self, nI_0] at A B
  refine ⟨evL (fun x => X2_get S (nI h) (1 - x)) L (S 7) 0 0, evL (fun x => X2_get S (nI h) (1 - x)) L (S 7) 0, evL (fun x => X2_get S (nI h) (1 - x)) L (σ 16) 0, ?_, ?_⟩
  · unfold X2_ask X2_ask_J20 X2_ask_J46
    rw [if_neg (pu_nlt0 (by omega)), hN, if_neg (by rw [pu_le (by omega) (by omega)]; omega), if_neg (by decide), show nI s * 3 = nI (s * 3) from pk_mul s 3, nI_add, show s * 3 + w = 3 * s + w by omega, jat_nI (by omega) (by omega), a1, if_neg (pu_ne1 (by omega))]
    exact A
  · unfold X8_asked
    rw [X8_o0 hh, hat]
    show (if ((3 : Int32) * nI s + nI k) < 0 ∨ 240 ≤ ((3 : Int32) * nI s + nI k).toNatClampNeg then none else X8_asked_L22 n n σ (nI h) ((3 : Int32) * nI s + nI k) 0 (σ 7 ((3 : Int32) * nI s + nI k).toNatClampNeg)) = _
    rw [show (3 : Int32) * nI s = nI (3 * s) from pk_mul 3 s, nI_add, if_neg (pu_g (n := 240) (by omega) (by omega)), nI_clamp (by omega), a8, evL_agree _ L (S 7) (σ 16) 0 (fun j hj => absurd hj (Nat.not_lt_zero j)) a7]
    exact B
