/-- the reference's codes of an item -/
def encI (x : Int32) : List Int32 := if 0 ≤ x then [0, x] else if -7 ≤ x then [19 - x] else [-9 - x]
def encL : List Int32 → List Int32
  | [] => []
  | x :: r => encI x ++ encL r
def okI (x : Int32) : Prop := (∃ v : Nat, v ≤ 9999 ∧ x = nI v) ∨ (∃ v : Nat, v < 7 ∧ x = -1 - nI v) ∨ ∃ o : Nat, 1 ≤ o ∧ o ≤ 6 ∧ x = -9 - nI o
theorem two_join : ∀ o, 1 ≤ o → o ≤ 6 → ∀ a b : Int32, X8_two (nI o) a b = X2_join (-9 - nI o) a b := by
  intro o h1 h2 a b
  rcases (show o = 1 ∨ o = 2 ∨ o = 3 ∨ o = 4 ∨ o = 5 ∨ o = 6 by omega) with rfl | rfl | rfl | rfl | rfl | rfl <;> rfl
theorem asked_loop (n : Nat) (σ : am_M) (hd e T : Nat) (he : e < 240) (hT : σ 8 e = nI T) (hT2 : T ≤ 2160) (env : Int32 → Int32) (hval : ∀ (st : Nat → Int32) (v : Nat), v < 7 → X8_valueOf (sC σ 16 st) (nI hd) (nI v) = some (env (-1 - nI v))) : ∀ (L : List Int32) (q h K : Nat) (st : Nat → Int32), L.length < K → q + (encL L).length = T → (∀ i, i < (encL L).length → σ 5 (q + i) = (encL L).getD i 0) → (∀ x ∈ L, okI x) → wfL L h → X8_asked_L22 n K (sC σ 16 st) (nI hd) (nI e) (nI h) (nI q) = some (evL env L st h 0, sC σ 16 (evL env L st h)) := by
  intro L
  induction L with
  | nil =>
    intro q h K st hK hq hs ho hw
    obtain ⟨K, rfl⟩ : ∃ J, K = J + 1 := ⟨K - 1, by omega⟩
    have hq2 : q = T := by simpa [encL] using hq
    simp only [X8_asked_L22, X8_asked_B22, evL]
    rw [if_neg (pu_g (n := 240) he (by omega)), nI_clamp (by omega), show sC σ 16 st 8 = σ 8 from rfl, hT, if_pos (by rw [pu_le (by omega) (by omega)]; omega)]
    rfl
  | cons x r ih =>
    intro q h K st hK hq hs ho hw
    obtain ⟨K, rfl⟩ : ∃ J, K = J + 1 := ⟨K - 1, by omega⟩
    simp only [List.length_cons] at hK
    have hox := ho x List.mem_cons_self
    have hor : ∀ y ∈ r, okI y := fun y hy => ho y (List.mem_cons_of_mem _ hy)
    obtain ⟨hw1, hw2⟩ := hw
    have hcode : ∀ i, i < (encI x).length → σ 5 (q + i) = (encI x).getD i 0 := fun i hi => by
      have h1 := hs i (by simp only [encL, List.length_append]; omega)
      rw [h1]
      simp only [encL, List.getD_eq_getElem?_getD, List.getElem?_append_left hi]
    have hrest : ∀ i, i < (encL r).length → σ 5 (q + (encI x).length + i) = (encL r).getD i 0 := fun i hi => by
      have h1 := hs ((encI x).length + i) (by simp only [encL, List.length_append]; omega)
      rw [Nat.add_assoc, h1]
      simp only [encL, List.getD_eq_getElem?_getD]
      rw [List.getElem?_append_right (by omega)]
      congr 2
      omega
    have hq3 : q + (encI x).length + (encL r).length = T := by
      simp only [encL, List.length_append] at hq
      omega
    simp only [X8_asked_L22, X8_asked_B22, X8_asked_J133, evL]
    rw [if_neg (pu_g (n := 240) he (by omega)), nI_clamp (by omega), show sC σ 16 st 8 = σ 8 from rfl, hT]
    rcases hox with ⟨v, hv, rfl⟩ | ⟨v, hv, rfl⟩ | ⟨o, ho1, ho2, rfl⟩
    · have e1 : encI (nI v) = [0, nI v] := if_pos (nI_pos' (by omega))
      rw [e1] at hcode hrest hq3
      simp only [List.length_cons, List.length_nil] at hcode hrest hq3
      have hc7 : (-7 : Int32) ≤ nI v := by
        have := nI_pos' (n := v) (by omega)
        rw [Int32.le_iff_toInt_le] at this ⊢
        have e7 : (-7 : Int32).toInt = -7 := by decide
        have e0 : (0 : Int32).toInt = 0 := by decide
        rw [e7]
        rw [e0] at this
        omega
      rw [if_pos hc7] at hw2
      have c0 : σ 5 q = 0 := by have := hcode 0 (by omega); simpa using this
      have c1 : σ 5 (q + 1) = nI v := by have := hcode 1 (by omega); simpa using this
      rw [if_neg (show ¬ nI T ≤ nI q by rw [pu_le (by omega) (by omega)]; omega), if_neg (pu_g (n := 2160) (by omega) (by omega)), nI_clamp (by omega), show sC σ 16 st 5 = σ 5 from rfl, c0, if_pos rfl, nI_1, if_neg (pu_g (n := 2160) (by omega) (by omega)), if_neg (pu_g (n := 360) (by omega) (by omega)), nI_clamp (by omega), nI_clamp (by omega), c1, show sC σ 16 st 16 = st from rfl, sC_sC, nI_1, nI_1, if_pos hc7, if_neg (pu_nlt0 (by omega))]
      exact ih (q + 1 + 1) (h + 1) K _ (by omega) (by omega) (fun i hi => by have := hrest i hi; rw [← this]) hor hw2.2
    · have e0 : ¬ (0 : Int32) ≤ -1 - nI v ∧ (-7 : Int32) ≤ -1 - nI v ∧ -1 - nI v < 0 ∧ 19 - (-1 - nI v) = nI (20 + v) ∧ nI (20 + v) - 20 = nI v := by
        rcases (show v = 0 ∨ v = 1 ∨ v = 2 ∨ v = 3 ∨ v = 4 ∨ v = 5 ∨ v = 6 by omega) with rfl | rfl | rfl | rfl | rfl | rfl | rfl <;> decide
      obtain ⟨z1, z2, z3, z4, z5⟩ := e0
      have e1 : encI (-1 - nI v) = [nI (20 + v)] := by
        unfold encI
        rw [if_neg z1, if_pos z2, z4]
      rw [e1] at hcode hrest hq3
      simp only [List.length_cons, List.length_nil] at hcode hrest hq3
      rw [if_pos z2] at hw2
      have c0 : σ 5 q = nI (20 + v) := by have := hcode 0 (by omega); simpa using this
      rw [if_neg (show ¬ nI T ≤ nI q by rw [pu_le (by omega) (by omega)]; omega), if_neg (pu_g (n := 2160) (by omega) (by omega)), nI_clamp (by omega), show sC σ 16 st 5 = σ 5 from rfl, c0, if_neg (nI_ne0 (by omega) (by omega)), if_neg (show ¬ nI (20 + v) < 20 by rw [show (20 : Int32) = nI 20 from rfl, pu_lt (by omega) (by omega)]; omega), z5, hval st v hv]
      simp only [Option.bind_some]
      rw [if_neg (pu_g (n := 360) (by omega) (by omega)), nI_clamp (by omega), show sC σ 16 st 16 = st from rfl, sC_sC, nI_1, nI_1, if_pos z2, if_pos z3]
      exact ih (q + 1) (h + 1) K _ (by omega) (by omega) (fun i hi => by have := hrest i hi; rw [← this]) hor hw2.2
    · have e0 : ¬ (0 : Int32) ≤ -9 - nI o ∧ ¬ (-7 : Int32) ≤ -9 - nI o ∧ -9 - (-9 - nI o) = nI o := by
        rcases (show o = 1 ∨ o = 2 ∨ o = 3 ∨ o = 4 ∨ o = 5 ∨ o = 6 by omega) with rfl | rfl | rfl | rfl | rfl | rfl <;> decide
      obtain ⟨z1, z2, z4⟩ := e0
      have e1 : encI (-9 - nI o) = [nI o] := by
        unfold encI
        rw [if_neg z1, if_neg z2, z4]
      rw [e1] at hcode hrest hq3
      simp only [List.length_cons, List.length_nil] at hcode hrest hq3
      rw [if_neg z2] at hw2
      obtain ⟨w1, w2, w3⟩ := hw2
      obtain ⟨h, rfl⟩ : ∃ j, h = j + 2 := ⟨h - 2, by omega⟩
      have c0 : σ 5 q = nI o := by have := hcode 0 (by omega); simpa using this
      rw [if_neg (show ¬ nI T ≤ nI q by rw [pu_le (by omega) (by omega)]; omega), if_neg (pu_g (n := 2160) (by omega) (by omega)), nI_clamp (by omega), show sC σ 16 st 5 = σ 5 from rfl, c0, if_neg (nI_ne0 (by omega) (by omega)), if_pos (show nI o < 20 by rw [show (20 : Int32) = nI 20 from rfl, pu_lt (by omega) (by omega)]; omega), show nI (h + 2) + (-1) = nI (h + 1) from nI_m1 (h + 1), nI_pred, if_neg (pu_g (n := 360) (by omega) (by omega)), if_neg (pu_g (n := 360) (by omega) (by omega)), if_neg (pu_g (n := 360) (by omega) (by omega)), nI_clamp (by omega), nI_clamp (by omega), show sC σ 16 st 16 = st from rfl, sC_sC, nI_1, if_neg z2, two_join o ho1 ho2]
      exact ih (q + 1) (h + 1) K _ (by omega) (by omega) (fun i hi => by have := hrest i hi; rw [← this]) hor w3
