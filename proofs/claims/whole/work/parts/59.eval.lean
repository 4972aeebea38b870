/-! EXPRs: a row of items (SendHall's numbers for them), its value on a stack -/
def evL (env : Int32 → Int32) : List Int32 → (Nat → Int32) → Nat → (Nat → Int32)
  | [], st, _ => st
  | x :: r, st, h => if -7 ≤ x then evL env r (upd st h (if x < 0 then env x else x)) (h + 1) else evL env r (upd st (h - 2) (X2_join x (st (h - 2)) (st (h - 1)))) (h - 1)
/-- the stack is never too low nor too high -/
def wfL : List Int32 → Nat → Prop
  | [], h => 1 ≤ h
  | x :: r, h => ¬ x = -20 ∧ (if -7 ≤ x then h < 40 ∧ wfL r (h + 1) else 2 ≤ h ∧ h ≤ 40 ∧ wfL r (h - 1))
theorem ask_get {S : am_M} {st : Nat → Int32} {a b : Int32} : X2_get (sC S 7 st) a b = X2_get S a b := rfl
theorem sC_sC {σ : am_M} {c : Nat} {f g : Nat → Int32} : sC (sC σ c f) c g = sC σ c g := by
  funext k
  simp only [sC_app]
  by_cases h : k = c
  · simp [h]
  · simp [h]
theorem ask_loop (n : Nat) (S : am_M) (a : Int32) (N : Nat) (hN : S 11 9 = nI N) (hN9 : N ≤ 900) : ∀ (L : List Int32) (p h K : Nat) (st : Nat → Int32), L.length < K → p + L.length < N → (∀ i, i < L.length → S 18 (p + i) = L.getD i 0) → S 18 (p + L.length) = -20 → wfL L h → X2_ask_L63 n K (sC S 7 st) a (nI h) (nI p) = some (evL (fun x => X2_get S a (1 - x)) L st h 0, sC S 7 (evL (fun x => X2_get S a (1 - x)) L st h)) := by
  intro L
  induction L with
  | nil =>
    intro p h K st hK hp hs he hw
    obtain ⟨K, rfl⟩ : ∃ J, K = J + 1 := ⟨K - 1, by omega⟩
    have hp2 : p < N := by simpa using hp
    have he2 : S 18 p = -20 := by simpa using he
    simp only [X2_ask_L63, X2_ask_B63, X2_ask_J192, evL]
    rw [show sC S 7 st 11 9 = nI N from hN, if_neg (by rw [pu_le (by omega) (by omega)]; omega), show sC S 7 st 18 = S 18 from rfl, jat_nI (by omega) (by omega), if_pos he2, show jat 40 (sC S 7 st 7) 0 = st 0 from jat_nI (i := 0) (f := st) (by omega) (by omega)]
  | cons x r ih =>
    intro p h K st hK hp hs he hw
    obtain ⟨K, rfl⟩ : ∃ J, K = J + 1 := ⟨K - 1, by omega⟩
    simp only [List.length_cons] at hK hp he
    have hx : S 18 p = x := by have := hs 0 (by simp); simpa using this
    have hs2 : ∀ i, i < r.length → S 18 (p + 1 + i) = r.getD i 0 := fun i hi => by
      have h1 := hs (i + 1) (by simp only [List.length_cons]; omega)
      rw [show p + 1 + i = p + (i + 1) by omega, h1]
      rfl
    have he2 : S 18 (p + 1 + r.length) = -20 := by rw [show p + 1 + r.length = p + (r.length + 1) by omega]; exact he
    obtain ⟨hw1, hw2⟩ := hw
    simp only [X2_ask_L63, X2_ask_B63, X2_ask_J192, X2_ask_J180, X2_ask_J186, evL]
    rw [show sC S 7 st 11 9 = nI N from hN, if_neg (show ¬ nI N ≤ nI p by rw [pu_le (by omega) (by omega)]; omega), show sC S 7 st 18 = S 18 from rfl, jat_nI (by omega) (by omega), hx, if_neg hw1]
    by_cases hc : -7 ≤ x
    · rw [if_pos hc] at hw2
      rw [if_pos hc, if_pos hc, show sC S 7 st 7 = st from rfl, jput_nI (by omega) (by omega), jput_nI (by omega) (by omega), sC_sC, sC_sC, nI_1, nI_1, ask_get]
      by_cases hn0 : x < 0
      · rw [if_pos hn0, if_pos hn0]
        exact ih (p + 1) (h + 1) K _ (by omega) (by omega) hs2 he2 hw2.2
      · rw [if_neg hn0, if_neg hn0]
        exact ih (p + 1) (h + 1) K _ (by omega) (by omega) hs2 he2 hw2.2
    · rw [if_neg hc] at hw2
      obtain ⟨w1, w2, w3⟩ := hw2
      obtain ⟨h, rfl⟩ : ∃ j, h = j + 2 := ⟨h - 2, by omega⟩
      rw [if_neg hc, if_neg hc, show nI (h + 2) + (-1) = nI (h + 1) from nI_m1 (h + 1), nI_pred, show sC S 7 st 7 = st from rfl, jat_nI (by omega) (by omega), jat_nI (by omega) (by omega), jput_nI (by omega) (by omega), sC_sC, nI_1]
      exact ih (p + 1) (h + 1) K _ (by omega) (by omega) hs2 he2 w3
