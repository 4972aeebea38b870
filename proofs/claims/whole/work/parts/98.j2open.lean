/-! A STEP IS READ: it is opened in both -/
def rSw (n : Nat) (rE : am_M → Int32 → Int32 → Option (Int32 × am_M)) (q2 : am_M) (l1 l2 l3 : Int32) : Option am_M := if l2 = 0 then (X8_readInto n q2 l3 0 0).bind (fun q4 => (X8_word n q4 19).bind (fun q5 => (X8_readInto n q5 l3 1 0).bind (fun q6 => (X8_word n q6 20).bind (fun q7 => (X8_readInto n q7 l3 2 0).bind (fun q8 => (X8_is n q8 21).bind (fun q9 => if q9 = true then (X8_stepOn n q8).bind (fun q11 => (X8_readNumber n q11 1 99).bind (fun q12 => if (40 + l3) < 0 ∨ 80 ≤ (40 + l3).toNatClampNeg then none else (X8_readStep_J475 n rE (sC q12.2 10 (upd (q12.2 10) (40 + l3).toNatClampNeg q12.1))))) else (X8_readStep_J475 n rE q8))))))) else (if l2 = 1 then (X8_readInto n q2 l3 0 0).bind (fun q15 => (X8_word n q15 19).bind (fun q16 => (X8_readInto n q16 l3 1 0).bind (fun q17 => (X8_word n q17 20).bind (fun q18 => (X8_readInto n q18 l3 2 0).bind (fun q19 => (X8_is n q19 21).bind (fun q20 => if q20 = true then (X8_stepOn n q19).bind (fun q22 => (X8_readNumber n q22 1 99).bind (fun q23 => if (40 + l3) < 0 ∨ 80 ≤ (40 + l3).toNatClampNeg then none else (X8_readStep_J475 n rE (sC q23.2 10 (upd (q23.2 10) (40 + l3).toNatClampNeg q23.1))))) else (X8_readStep_J475 n rE q19))))))) else (if l2 = 2 then (X8_readInto n q2 l3 0 0).bind (fun q26 => (X8_word n q26 19).bind (fun q27 => (X8_readInto n q27 l3 1 0).bind (fun q28 => (X8_word n q28 20).bind (fun q29 => (X8_readInto n q29 l3 2 0).bind (fun q30 => (X8_is n q30 21).bind (fun q31 => if q31 = true then (X8_stepOn n q30).bind (fun q33 => (X8_readNumber n q33 1 99).bind (fun q34 => if (40 + l3) < 0 ∨ 80 ≤ (40 + l3).toNatClampNeg then none else (X8_readStep_J475 n rE (sC q34.2 10 (upd (q34.2 10) (40 + l3).toNatClampNeg q34.1))))) else (X8_readStep_J475 n rE q30))))))) else (if l2 = 3 then (if l2 = 3 then (X8_readInto n q2 l3 0 0).bind (fun q38 => X8_readStep_J336 n rE q38 l3) else (X8_readStep_J336 n rE q2 l3)) else (if l2 = 4 then (if l2 = 3 then (X8_readInto n q2 l3 0 0).bind (fun q41 => X8_readStep_J336 n rE q41 l3) else (X8_readStep_J336 n rE q2 l3)) else (if l2 = 5 then (X8_readStep_J475 n rE q2) else (if l2 = 6 then (X8_readStep_J475 n rE q2) else (if l2 = 7 then (X8_readInto n q2 l3 0 0).bind (fun q45 => (X8_word n q45 22).bind (fun q46 => (X8_readVar n q46).bind (fun q47 => if (40 + l3) < 0 ∨ 80 ≤ (40 + l3).toNatClampNeg then none else (X8_readStep_J475 n rE (sC q47.2 9 (upd (q47.2 9) (40 + l3).toNatClampNeg q47.1)))))) else (if l2 = 8 then (X8_readVar n q2).bind (fun q50 => if (40 + l3) < 0 ∨ 80 ≤ (40 + l3).toNatClampNeg then none else (X8_readInto n (sC q50.2 9 (upd (q50.2 9) (40 + l3).toNatClampNeg q50.1)) l3 0 1).bind (fun q52 => X8_readStep_J475 n rE q52)) else (if l2 = 9 then (X8_readInto n q2 l3 0 1).bind (fun q54 => X8_readStep_J475 n rE q54) else (if l2 = 10 then (X8_readBranches n rE q2 l3 l1).bind (fun q56 => X8_readStep_J475 n rE q56) else (X8_readStep_J475 n rE q2)))))))))))
section OPEN
variable {n : Nat} {S R : am_M} {N : Nat}
theorem opnL (K : Nat) (σ : am_M) (a1 l2 : Int32) : X3_open_L56 n (K + 4) σ a1 l2 0 = (fun σ' : am_M => if a1 = 4 then some (l2, sC σ' 0 (am_u (am_u (σ' 0) 7 ((σ' 0 7) + 1)) 8 ((σ' 0 8) + 1))) else some (l2, sC σ' 0 (am_u (σ' 0) 7 ((σ' 0 7) + 1)))) (sC σ 6 (jput 120 (jput 120 (jput 120 (σ 6) (l2 * 3 + 0) (-1)) (l2 * 3 + 1) (-1)) (l2 * 3 + 2) (-1))) := by
  simp only [X3_open_L56, X3_open_B56]
  rw [if_neg (show ¬ (3 : Int32) ≤ 0 by decide), if_neg (show ¬ (3 : Int32) ≤ 0 + 1 by decide), if_neg (show ¬ (3 : Int32) ≤ 0 + 1 + 1 by decide), if_pos (show (3 : Int32) ≤ 0 + 1 + 1 + 1 by decide), show (0 : Int32) + 1 + 1 = 2 by decide, show (0 : Int32) + 1 = 1 by decide, sC_sC, sC_sC] <;> rfl
theorem put_68 {T : am_M} {c : Nat} : am_put S 6 8 T c = if 6 ≤ c ∧ c < 14 then T (c - 6) else S c := by
  by_cases q : 6 ≤ c ∧ c < 14
  · rw [if_pos q, am_put_in q.1 q.2]
  · rw [if_neg q, am_put_ne (by omega)]
/-- the class opens a STEP -/
theorem opn_C (hn : 2200 < n) (hN : S 6 7 = nI N) (hN4 : N < 40) {M : Nat} (hM : S 6 8 = nI M) {kd : Nat} (hkd : kd ≤ 10) : ∃ T S1, X3_open n (am_sub S 6) (nI kd) = some (nI N, T) ∧ S1 = am_put S 6 8 T ∧ (∀ c, (c < 6 ∨ 12 < c) → S1 c = S c) ∧ S1 7 = upd (S 7) N (nI kd) ∧ S1 8 = upd (S 8) N (nI (N + 1)) ∧ S1 9 = upd (S 9) N (nI (N + 1)) ∧ S1 10 = upd (S 10) N 0 ∧ S1 11 = upd (S 11) N 0 ∧ (∀ w, w < 3 → S1 12 (3 * N + w) = -1) ∧ (∀ j, (j < 3 * N ∨ 3 * N + 3 ≤ j) → S1 12 j = S 12 j) ∧ S1 6 7 = nI (N + 1) ∧ S1 6 8 = nI (M + if kd = 4 then 1 else 0) ∧ S1 6 9 = S 6 9 := by
  obtain ⟨K, hK⟩ : ∃ K, n = K + 4 := ⟨n - 4, by omega⟩
  have e3 : ∀ w : Nat, nI N * 3 + nI w = nI (3 * N + w) := fun w => by
    rw [show nI N * 3 = nI (N * 3) from pk_mul N 3, nI_add, show N * 3 + w = 3 * N + w by omega]
  obtain ⟨σ0, hσ0⟩ : ∃ σ0, σ0 = sC (sC (sC (sC (sC (am_sub S 6) 1 (upd (S 7) N (nI kd))) 2 (upd (S 8) N (nI (N + 1)))) 3 (upd (S 9) N (nI (N + 1)))) 4 (upd (S 10) N 0)) 5 (upd (S 11) N 0) := ⟨_, rfl⟩
  obtain ⟨σ1, hσ1⟩ : ∃ σ1, σ1 = sC σ0 6 (upd (upd (upd (S 12) (3 * N) (-1)) (3 * N + 1) (-1)) (3 * N + 2) (-1)) := ⟨_, rfl⟩
  have op : X3_open n (am_sub S 6) (nI kd) = if nI kd = 4 then some (nI N, sC σ1 0 (am_u (am_u (σ1 0) 7 (nI (N + 1))) 8 (nI (M + 1)))) else some (nI N, sC σ1 0 (am_u (σ1 0) 7 (nI (N + 1)))) := by
    have h7 : am_sub S 6 0 7 = nI N := hN
    unfold X3_open
    rw [h7]
    have jp : ∀ (f : Nat → Int32) (v : Int32), jput 40 f (nI N) v = upd f N v := fun f v => jput_nI hN4 (by omega)
    rw [jp, jp, jp, jp, jp, nI_1]
    have L := opnL (n := n) K σ0 (nI kd) (nI N)
    rw [← hK] at L
    have g6 : σ0 6 = S 12 := by rw [hσ0] <;> rfl
    rw [show nI N * 3 + 0 = nI (3 * N + 0) from e3 0, show nI N * 3 + 1 = nI (3 * N + 1) from e3 1, show nI N * 3 + 2 = nI (3 * N + 2) from e3 2, jput_nI (by omega) (by omega), jput_nI (by omega) (by omega), jput_nI (by omega) (by omega), g6, Nat.add_zero, ← hσ1] at L
    have g7 : σ1 0 7 = nI N := by rw [hσ1, hσ0]; exact hN
    have g8 : σ1 0 8 = nI M := by rw [hσ1, hσ0]; exact hM
    rw [hσ0] at L
    refine Eq.trans L ?_
    show (if nI kd = 4 then some (nI N, sC σ1 0 (am_u (am_u (σ1 0) 7 ((σ1 0 7) + 1)) 8 ((σ1 0 8) + 1))) else some (nI N, sC σ1 0 (am_u (σ1 0) 7 ((σ1 0 7) + 1)))) = _
    rw [g7, g8, nI_1, nI_1]
  have props : ∀ f : Nat → Int32, f 7 = nI (N + 1) → f 8 = nI (M + if kd = 4 then 1 else 0) → f 9 = S 6 9 → ∃ S1, S1 = am_put S 6 8 (sC σ1 0 f) ∧ (∀ c, (c < 6 ∨ 12 < c) → S1 c = S c) ∧ S1 7 = upd (S 7) N (nI kd) ∧ S1 8 = upd (S 8) N (nI (N + 1)) ∧ S1 9 = upd (S 9) N (nI (N + 1)) ∧ S1 10 = upd (S 10) N 0 ∧ S1 11 = upd (S 11) N 0 ∧ (∀ w, w < 3 → S1 12 (3 * N + w) = -1) ∧ (∀ j, (j < 3 * N ∨ 3 * N + 3 ≤ j) → S1 12 j = S 12 j) ∧ S1 6 7 = nI (N + 1) ∧ S1 6 8 = nI (M + if kd = 4 then 1 else 0) ∧ S1 6 9 = S 6 9 := fun f f7 f8 f9 => by
    refine ⟨_, rfl, fun c hc => ?_, ?_, ?_, ?_, ?_, ?_, fun w hw => ?_, fun j hj => ?_, ?_, ?_, ?_⟩
    · rw [put_68]
      by_cases q : 6 ≤ c ∧ c < 14
      · rw [if_pos q, show c = 13 by omega, hσ1, hσ0] <;> rfl
      · rw [if_neg q]
    · rw [put_68, if_pos (by omega), hσ1, hσ0] <;> rfl
    · rw [put_68, if_pos (by omega), hσ1, hσ0] <;> rfl
    · rw [put_68, if_pos (by omega), hσ1, hσ0] <;> rfl
    · rw [put_68, if_pos (by omega), hσ1, hσ0] <;> rfl
    · rw [put_68, if_pos (by omega), hσ1, hσ0] <;> rfl
    · rw [put_68, if_pos (by omega), hσ1]
      show upd (upd (upd (S 12) (3 * N) (-1)) (3 * N + 1) (-1)) (3 * N + 2) (-1) (3 * N + w) = -1
      rcases (show w = 0 ∨ w = 1 ∨ w = 2 by omega) with rfl | rfl | rfl
      · rw [upd_ne (by omega), upd_ne (by omega), Nat.add_zero, upd_eq]
      · rw [upd_ne (by omega), upd_eq]
      · rw [upd_eq]
    · rw [put_68, if_pos (by omega), hσ1]
      show upd (upd (upd (S 12) (3 * N) (-1)) (3 * N + 1) (-1)) (3 * N + 2) (-1) j = S 12 j
      rw [upd_ne (by omega), upd_ne (by omega), upd_ne (by omega)]
    · rw [put_68, if_pos (by omega)]; exact f7
    · rw [put_68, if_pos (by omega)]; exact f8
    · rw [put_68, if_pos (by omega)]; exact f9
  have g9 : σ1 0 9 = S 6 9 := by rw [hσ1, hσ0] <;> rfl
  have g8 : σ1 0 8 = nI M := by rw [hσ1, hσ0]; exact hM
  by_cases q : kd = 4
  · rw [if_pos (show nI kd = 4 by rw [q] <;> rfl)] at op
    obtain ⟨S1, p⟩ := props (am_u (am_u (σ1 0) 7 (nI (N + 1))) 8 (nI (M + 1))) rfl (by rw [if_pos q] <;> rfl) g9
    exact ⟨_, S1, op, p⟩
  · rw [if_neg (show ¬ nI kd = 4 from fun z => q ((nI_eq (b := 4) (by omega) (by omega)).mp z))] at op
    obtain ⟨S1, p⟩ := props (am_u (σ1 0) 7 (nI (N + 1))) rfl (by rw [if_neg q]; exact g8) g9
    exact ⟨_, S1, op, p⟩
/-- the reference opens a STEP -/
theorem l152 (hN4 : N < 40) (rE : am_M → Int32 → Int32 → Option (Int32 × am_M)) (K : Nat) (σ : am_M) (l1 l2 : Int32) : ∃ σ', X8_readStep_L152 n rE (K + 4) σ l1 l2 (nI N) 0 = (X8_stepOn n σ').bind (fun q2 => rSw n rE q2 l1 l2 (nI N)) ∧ (∀ c, c ≠ 7 → c ≠ 8 → σ' c = σ c) ∧ ∀ j, (j < 120 + 3 * N ∨ 120 + 3 * N + 3 ≤ j) → σ' 7 j = σ 7 j ∧ σ' 8 j = σ 8 j := by
  have e : ∀ w : Nat, (3 : Int32) * (40 + nI N) + nI w = nI (120 + 3 * N + w) := fun w => by
    rw [show (40 : Int32) + nI N = nI (40 + N) from nI_add 40 N, show (3 : Int32) * nI (40 + N) = nI (3 * (40 + N)) from pk_mul 3 (40 + N), nI_add, show 3 * (40 + N) + w = 120 + 3 * N + w by omega]
  have one : ∀ (J w : Nat) (τ : am_M), w < 3 → X8_readStep_L152 n rE (J + 1) τ l1 l2 (nI N) (nI w) = X8_readStep_L152 n rE J (sC (sC τ 7 (upd (τ 7) (120 + 3 * N + w) 0)) 8 (upd (τ 8) (120 + 3 * N + w) 0)) l1 l2 (nI N) (nI (w + 1)) := fun J w τ hw => by
    rw [X8_readStep_L152]
    simp only [X8_readStep_B152]
    rw [if_neg (show ¬ (3 : Int32) ≤ nI w from fun z => by have := (nI_leI (a := 3) (by omega) (by omega)).mp z; omega), e w, if_neg (pu_g (n := 240) (by omega) (by omega)), if_neg (pu_g (n := 240) (by omega) (by omega)), nI_clamp (by omega), nI_1]
  have last : ∀ (J : Nat) (τ : am_M), X8_readStep_L152 n rE (J + 1) τ l1 l2 (nI N) (nI 3) = (X8_stepOn n τ).bind (fun q2 => rSw n rE q2 l1 l2 (nI N)) := fun J τ => by
    rw [X8_readStep_L152]
    show X8_readStep_B152 n rE (X8_readStep_L152 n rE J) τ l1 l2 (nI N) (nI 3) = _
    unfold X8_readStep_B152
    rw [if_pos (show (3 : Int32) ≤ nI 3 by decide)] <;> rfl
  refine ⟨_, (one (K + 3) 0 σ (by omega)).trans ((one (K + 2) 1 _ (by omega)).trans ((one (K + 1) 2 _ (by omega)).trans (last K _))), fun c h7 h8 => ?_, fun j hj => ⟨?_, ?_⟩⟩
  · rw [sC_ne h8, sC_ne h7, sC_ne h8, sC_ne h7, sC_ne h8, sC_ne h7]
  · show upd (upd (upd (σ 7) (120 + 3 * N + 0) 0) (120 + 3 * N + 1) 0) (120 + 3 * N + 2) 0 j = _
    rw [upd_ne (by omega), upd_ne (by omega), upd_ne (by omega)]
  · show upd (upd (upd (σ 8) (120 + 3 * N + 0) 0) (120 + 3 * N + 1) 0) (120 + 3 * N + 2) 0 j = _
    rw [upd_ne (by omega), upd_ne (by omega), upd_ne (by omega)]
theorem opn_R (hn : 2200 < n) (h18 : R 0 18 = 0) (h41 : R 4 1 = nI N) (hN4 : N < 40) (rE : am_M → Int32 → Int32 → Option (Int32 × am_M)) (l1 : Int32) {kd : Nat} (hkd : kd ≤ 10) : ∃ Rb, X8_readStep_J49 n rE R l1 (nI kd) = (X8_stepOn n Rb).bind (fun q2 => rSw n rE q2 l1 (nI kd) (nI N)) ∧ (∀ c, (c ≠ 4 ∧ c < 6 ∨ 13 < c) → Rb c = R c) ∧ Rb 4 = upd (R 4) 1 (nI (N + 1)) ∧ Rb 6 = upd (R 6) (40 + N) (nI kd) ∧ Rb 9 = upd (R 9) (40 + N) 0 ∧ Rb 10 = upd (R 10) (40 + N) (nI (if kd = 3 ∨ kd = 4 then 99 else 1)) ∧ Rb 11 = upd (R 11) (40 + N) (-1) ∧ Rb 12 = upd (R 12) (40 + N) (-1) ∧ Rb 13 = upd (R 13) (40 + N) (-1) ∧ ∀ j, (j < 120 + 3 * N ∨ 120 + 3 * N + 3 ≤ j) → Rb 7 j = R 7 j ∧ Rb 8 j = R 8 j := by
  obtain ⟨K, hK⟩ : ∃ K, n = K + 4 := ⟨n - 4, by omega⟩
  have h41' : R 4 (1 : Int32).toNatClampNeg = nI N := h41
  have e40 : (40 : Int32) + nI N = nI (40 + N) := nI_add 40 N
  have core : ∀ s0 : Int32, ∃ Rb, X8_readStep_J108 n rE (sC (sC R 4 (upd (R 4) (1 : Int32).toNatClampNeg (nI N + 1))) 6 (upd (R 6) (40 + nI N).toNatClampNeg (nI kd))) l1 (nI kd) (nI N) s0 (40 + nI N) = (X8_stepOn n Rb).bind (fun q2 => rSw n rE q2 l1 (nI kd) (nI N)) ∧ (∀ c, (c ≠ 4 ∧ c < 6 ∨ 13 < c) → Rb c = R c) ∧ Rb 4 = upd (R 4) 1 (nI (N + 1)) ∧ Rb 6 = upd (R 6) (40 + N) (nI kd) ∧ Rb 9 = upd (R 9) (40 + N) 0 ∧ Rb 10 = upd (R 10) (40 + N) s0 ∧ Rb 11 = upd (R 11) (40 + N) (-1) ∧ Rb 12 = upd (R 12) (40 + N) (-1) ∧ Rb 13 = upd (R 13) (40 + N) (-1) ∧ ∀ j, (j < 120 + 3 * N ∨ 120 + 3 * N + 3 ≤ j) → Rb 7 j = R 7 j ∧ Rb 8 j = R 8 j := fun s0 => by
    unfold X8_readStep_J108
    rw [e40, if_neg (pu_g (n := 80) (by omega) (by omega)), if_neg (pu_g (n := 80) (by omega) (by omega)), if_neg (pu_g (n := 80) (by omega) (by omega)), if_neg (pu_g (n := 80) (by omega) (by omega)), if_neg (pu_g (n := 80) (by omega) (by omega)), nI_clamp (by omega), nI_1]
    generalize hR0 : (sC (sC (sC (sC (sC (sC (sC R 4 (upd (R 4) (1 : Int32).toNatClampNeg (nI (N + 1)))) 6 (upd (R 6) (40 + N) (nI kd))) 9 (upd ((sC (sC R 4 (upd (R 4) (1 : Int32).toNatClampNeg (nI (N + 1)))) 6 (upd (R 6) (40 + N) (nI kd))) 9) (40 + N) 0)) 10 (upd ((sC (sC R 4 (upd (R 4) (1 : Int32).toNatClampNeg (nI (N + 1)))) 6 (upd (R 6) (40 + N) (nI kd))) 10) (40 + N) s0)) 11 (upd ((sC (sC R 4 (upd (R 4) (1 : Int32).toNatClampNeg (nI (N + 1)))) 6 (upd (R 6) (40 + N) (nI kd))) 11) (40 + N) (-1))) 12 (upd ((sC (sC R 4 (upd (R 4) (1 : Int32).toNatClampNeg (nI (N + 1)))) 6 (upd (R 6) (40 + N) (nI kd))) 12) (40 + N) (-1))) 13 (upd ((sC (sC R 4 (upd (R 4) (1 : Int32).toNatClampNeg (nI (N + 1)))) 6 (upd (R 6) (40 + N) (nI kd))) 13) (40 + N) (-1))) = Rc
    obtain ⟨Rb, b1, b2, b3⟩ := l152 (n := n) hN4 rE K Rc l1 (nI kd)
    rw [← hK] at b1
    refine ⟨Rb, b1, fun c hc => ?_, ?_, ?_, ?_, ?_, ?_, ?_, ?_, fun j hj => ⟨?_, ?_⟩⟩
    · rw [b2 c (by omega) (by omega), ← hR0, sC_ne (by omega), sC_ne (by omega), sC_ne (by omega), sC_ne (by omega), sC_ne (by omega), sC_ne (by omega), sC_ne (by omega)]
    · rw [b2 _ (by omega) (by omega), ← hR0] <;> rfl
    · rw [b2 _ (by omega) (by omega), ← hR0] <;> rfl
    · rw [b2 _ (by omega) (by omega), ← hR0] <;> rfl
    · rw [b2 _ (by omega) (by omega), ← hR0] <;> rfl
    · rw [b2 _ (by omega) (by omega), ← hR0] <;> rfl
    · rw [b2 _ (by omega) (by omega), ← hR0] <;> rfl
    · rw [b2 _ (by omega) (by omega), ← hR0] <;> rfl
    · rw [(b3 j hj).1, ← hR0] <;> rfl
    · rw [(b3 j hj).2, ← hR0] <;> rfl
  unfold X8_readStep_J49 X8_readStep_J102
  rw [if_pos h18, h41', if_neg (by rw [e40]; exact pu_g (n := 80) (by omega) (by omega))]
  by_cases q3 : kd = 3
  · rw [if_pos (show nI kd = 3 by rw [q3] <;> rfl), if_pos (Or.inl q3)]
    exact core 99
  · rw [if_neg (show ¬ nI kd = 3 from fun z => q3 ((nI_eq (b := 3) (by omega) (by omega)).mp z))]
    by_cases q4 : kd = 4
    · rw [if_pos (show nI kd = 4 by rw [q4] <;> rfl), if_pos (Or.inr q4)]
      exact core 99
    · rw [if_neg (show ¬ nI kd = 4 from fun z => q4 ((nI_eq (b := 4) (by omega) (by omega)).mp z)), if_neg (by omega)]
      exact core 1
end OPEN
