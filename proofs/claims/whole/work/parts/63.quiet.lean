/-! QUIET STEPS -/
def stS (S : am_M) (f st : Nat → Int32) : am_M := sC (sC S 1 f) 7 st
def stM (σ : am_M) (g st : Nat → Int32) : am_M := sC (sC σ 15 g) 16 st
theorem stS_1 {S : am_M} {f st f' : Nat → Int32} : sC (stS S f st) 1 f' = stS S f' st := by
  funext k
  simp only [stS, sC_app]
  by_cases h1 : k = 1
  · simp [h1]
  · by_cases h7 : k = 7 <;> simp [h1, h7]
theorem stS_7 {S : am_M} {f st st' : Nat → Int32} : sC (stS S f st) 7 st' = stS S f st' := by
  funext k
  simp only [stS, sC_app]
  by_cases h7 : k = 7 <;> simp [h7]
theorem stS_self (S : am_M) : stS S (S 1) (S 7) = S := by
  funext k
  simp only [stS, sC_app]
  by_cases h1 : k = 1
  · by_cases h7 : k = 7 <;> simp [h1]
  · by_cases h7 : k = 7 <;> simp [h1, h7]
theorem stM_15 {σ : am_M} {g st g' : Nat → Int32} : sC (stM σ g st) 15 g' = stM σ g' st := by
  funext k
  simp only [stM, sC_app]
  by_cases h1 : k = 15
  · simp [h1]
  · by_cases h7 : k = 16 <;> simp [h1, h7]
theorem stM_16 {σ : am_M} {g st st' : Nat → Int32} : sC (stM σ g st) 16 st' = stM σ g st' := by
  funext k
  simp only [stM, sC_app]
  by_cases h7 : k = 16 <;> simp [h7]
theorem stM_self (σ : am_M) : stM σ (σ 15) (σ 16) = σ := by
  funext k
  simp only [stM, sC_app]
  by_cases h1 : k = 15
  · by_cases h7 : k = 16 <;> simp [h1]
  · by_cases h7 : k = 16 <;> simp [h1, h7]
theorem rScr_st {n : Nat} {S σ : am_M} {f st g s' : Nat → Int32} {N : Nat} {kd nx ot : Nat → Nat} {G : Nat → Nat → List Int32} (h : rScr n S σ N kd nx ot G) : rScr n (stS S f st) (stM σ g s') N kd nx ot G := by
  refine rScr_congr (fun c h1 h2 => ?_) (fun c h1 h2 => ?_) h
  · simp only [stS, sC_app]
    rw [if_neg (by omega), if_neg (by omega)]
  · simp only [stM, sC_app]
    rw [if_neg (by omega), if_neg (by omega)]
/-- which STEPS are left out stands alike -/
def rOut (τ : Nat → Int64) (σ : am_M) (N : Nat) (kd : Nat → Nat) : Prop := ∀ s, s < N → (σ 14 s = 0 ∧ ∀ S : am_M, X2_isLeftOut S τ (nI s) = false) ∨ (σ 14 s = 1 ∧ kd s ≠ 10 ∧ ∀ S : am_M, X2_isLeftOut S τ (nI s) = true)
/-- of a HAND's row nothing but what a QUIET STEP sets -/
def rowC (f f0 : Nat → Int32) (h : Nat) : Prop := ∀ j, ¬ (13 * h + 2 ≤ j ∧ j ≤ 13 * h + 5) → j ≠ 13 * h + 9 → f j = f0 j
def rowM (g g0 : Nat → Int32) (h : Nat) : Prop := ∀ j, j ≠ 8 * h + 0 → ¬ (8 * h + 2 ≤ j ∧ j ≤ 8 * h + 5) → j ≠ 8 * h + 7 → g j = g0 j
theorem upd_eq {f : Nat → Int32} {i : Nat} {v : Int32} : upd f i v i = v := if_pos rfl
theorem upd_ne {f : Nat → Int32} {i j : Nat} {v : Int32} (h : j ≠ i) : upd f i v j = f j := if_neg h
/-- the class's side of a QUIET STEP -/
theorem pass_eq (n : Nat) (hn : 2200 < n) {S σ : am_M} {τ : Nat → Int64} {N m h t : Nat} {kd nx ot : Nat → Nat} {G : Nat → Nat → List Int32} (hs : rScr n S σ N kd nx ot G) (hh : h < 8) (ht : t < N) (ho : rOut τ σ N kd) (hq : 8 ≤ kd t ∨ σ 14 t = 1) :
    X2_isQuiet S τ (nI t) = true ∧ ∃ st, X2_pass n τ S (nI h) (nI t) = some (if σ 14 t = 1 then (nI (nx t), S) else if kd t = 8 then (nI (nx t), stS S (upd (S 1) (13 * h + 2 + (S 15 t).toNatClampNeg) (aV S h (G t 2))) st) else if kd t = 9 then (nI (nx t), stS S (upd (S 1) (13 * h + 9) (S 1 (13 * h + 9) * 31 + aV S h (G t 2))) st) else (if aV S h (G t 2) = 0 then nI (ot t) else nI (nx t), stS S (S 1) st)) := by
  obtain ⟨hN4, hN, hN2, hst⟩ := hs
  obtain ⟨⟨k1, k2, k3⟩, ⟨b1, b2, b3⟩, ⟨v, c1, c2, c3⟩, d, e, f, g⟩ := hst t ht
  have hk := kindOf_eq hN hN4 ht k2
  have hkne : ¬ nI (kd t) = -1 := pu_ne1 (by omega)
  rcases ho t ht with ⟨o1, o2⟩ | ⟨o1, o2, o3⟩
  · have hk8 : 8 ≤ kd t := by
      rcases hq with h | h
      · exact h
      · rw [o1] at h; exact absurd h (by decide)
    refine ⟨?_, ?_⟩
    · unfold X2_isQuiet
      rw [hk, if_neg hkne, if_pos (show (8 : Int32) ≤ nI (kd t) by rw [show (8 : Int32) = nI 8 from rfl, pu_le (by omega) (by omega)]; exact hk8)]
    · have hA := (d 2 (by omega)).1 (by
        unfold hasA
        simp only [Bool.or_eq_true, Bool.and_eq_true, decide_eq_true_eq]
        exact Or.inr ⟨by omega, trivial⟩)
      obtain ⟨st, hask⟩ := ask_cl n hn (S := S) (σ := σ) (h := h) hN hN4 ht (by omega) hA
      refine ⟨st, ?_⟩
      rw [if_neg (show ¬ σ 14 t = 1 by rw [o1]; decide)]
      unfold X2_pass
      rw [if_neg (by rw [o2 S]; decide), show (2 : Int32) = nI 2 from rfl, hask]
      show (if X3_kindOf (am_sub (sC S 7 st) 11) (nI t) = 8 then _ else _) = _
      have hk' : X3_kindOf (am_sub (sC S 7 st) 11) (nI t) = nI (kd t) := kindOf_eq (S := sC S 7 st) hN hN4 ht k2
      rw [hk', jat_nI (f := S 13) (by omega) (by omega), b3]
      have e7 : sC S 7 st = stS S (S 1) st := by
        funext k
        simp only [stS, sC_app]
        by_cases h7 : k = 7
        · simp [h7]
        · by_cases h1 : k = 1 <;> simp [h1, h7]
      rcases (show kd t = 8 ∨ kd t = 9 ∨ kd t = 10 by omega) with h8 | h8 | h8
      · rw [h8, if_pos (show nI 8 = 8 from rfl), if_pos rfl]
        show (X2_set (sC S 7 st) (nI h) (nI 2 + jat 40 (S 15) (nI t)) (aV S h (G t 2))).bind _ = _
        rw [jat_nI (by omega) (by omega), c2, nI_add, X2_set_eq hh (by omega), nI_clamp (by omega), e7, stS_1]
        show some (nI (nx t), stS S (upd (S 1) (13 * h + (2 + v)) (aV S h (G t 2))) st) = _
        rw [show 13 * h + (2 + v) = 13 * h + 2 + v by omega]
      · rw [h8, if_neg (show ¬ nI 9 = 8 by decide), if_pos (show nI 9 = 9 from rfl), if_neg (show ¬ (9 : Nat) = 8 by decide), if_pos rfl]
        show (X2_set (sC S 7 st) (nI h) 9 (X2_get (sC S 7 st) (nI h) 9 * 31 + aV S h (G t 2))).bind _ = _
        rw [X2_g9 hh, X2_s9 hh, e7, stS_1]
        rfl
      · rw [h8, if_neg (show ¬ nI 10 = 8 by decide), if_neg (show ¬ nI 10 = 9 by decide), if_neg (show ¬ (10 : Nat) = 8 by decide), if_neg (show ¬ (10 : Nat) = 9 by decide)]
        obtain ⟨f1, f2, f3, -⟩ := f h8
        show (if aV S h (G t 2) = 0 then some (jat 40 (S 14) (nI t), sC S 7 st) else some (nI (nx t), sC S 7 st)) = _
        rw [jat_nI (by omega) (by omega), f3, e7]
        split <;> rfl
  · refine ⟨?_, S 7, ?_⟩
    · unfold X2_isQuiet
      rw [hk, if_neg hkne]
      split
      · rfl
      · rw [o3 S, if_pos rfl]
    · rw [if_pos o1]
      unfold X2_pass
      rw [o3 S, if_pos rfl, jat_nI (by omega) (by omega), b3]
