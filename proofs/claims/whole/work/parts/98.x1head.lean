/-! THE LAW'S LOOP over the calls -/
section HEAD
variable {n c L : Nat} {xs : Nat → Int32} {kont : (Nat → Nat) → am_M → (Nat → Int64) → (Nat → Int64) → am_M → Int32 → Option Bool} {χ : Nat → Nat} {σ : am_M} {τ o : Nat → Int64} {ρ : am_M} {k : Nat}
theorem few6 : ∀ L : Nat, L < 6 → nI L - 6 < 0 := by decide
theorem head_ok (hn : 2200 < n) (hc : c ≤ 600) (hL2 : L ≤ 3072) (hk6 : k < 4000) (hk : k + 5 < L → KT n c kont (nI k)) (h1 : k + 5 < L → KT n c kont (nI k) → L_c1 n L xs kont χ σ τ o ρ (nI k) = some true) (h : hRel n c χ σ τ ρ) : L_head n L xs kont χ σ τ o ρ (nI k) = some true := by
  unfold L_head
  by_cases hend : Int32.ofNat L - 6 < nI k
  · rw [if_pos hend]
  · rw [if_neg hend]
    have hL : k + 5 < L := by
      by_cases q : L < 6
      · exact absurd (Int32.lt_of_lt_of_le (few6 L q) (Int32.not_lt.mp (nI_n0 (show k < 2147483640 by omega)))) hend
      · obtain ⟨L', rfl⟩ : ∃ L', L = 6 + L' := ⟨L - 6, by omega⟩
        have e : Int32.ofNat (6 + L') - 6 = nI L' := nI_asub 6 L'
        rw [e] at hend
        have := (nI_leI (by omega) (by omega)).mp (Int32.not_lt.mp hend)
        omega
    have hk' := hk hL
    rw [if_neg (pu_g (n := L) (by omega) (by omega))]
    generalize xs (nI k).toNatClampNeg &&& 31 = w
    by_cases q0 : w = 0
    · rw [if_pos q0]
      exact case0 hn hL hL2 hk' h
    rw [if_neg q0]
    by_cases q1 : w = 1
    · rw [if_pos q1]
      exact h1 hL hk'
    rw [if_neg q1]
    by_cases q2 : w = 2
    · rw [if_pos q2]
      exact case2 hk' h
    rw [if_neg q2]
    by_cases q3 : w = 3
    · rw [if_pos q3]
      exact case3 hc hL hL2 hk' h
    rw [if_neg q3]
    by_cases q4 : w = 4
    · rw [if_pos q4]
      exact case4 hn hL hL2 hk' h
    rw [if_neg q4]
    by_cases q5 : w = 5
    · rw [if_pos q5]
      exact case5 hL hL2 hk' h
    rw [if_neg q5]
    by_cases q6 : w = 6
    · rw [if_pos q6]
      exact case6 hn hk' h
    rw [if_neg q6]
    by_cases q7 : w = 7
    · rw [if_pos q7]
      exact case7 hn hL hL2 hk' h
    rw [if_neg q7]
    by_cases q8 : w = 8
    · rw [if_pos q8]
      exact case8 hn hL hL2 hk' h
    rw [if_neg q8]
    by_cases q9 : w = 9
    · rw [if_pos q9]
      exact case9 hn hk' h
    rw [if_neg q9]
    by_cases q10 : w = 10
    · rw [if_pos q10]
      exact case10 hn hL hL2 hk' h
    rw [if_neg q10]
    by_cases q11 : w = 11
    · rw [if_pos q11]
      exact case11 hn hk' h
    rw [if_neg q11]
    by_cases q12 : w = 12
    · rw [if_pos q12]
      exact case12 hn hk' h
    rw [if_neg q12]
    by_cases q13 : w = 13
    · rw [if_pos q13]
      exact case13 hL hL2 hk' h
    rw [if_neg q13]
    by_cases q14 : w = 14
    · rw [if_pos q14]
      exact case14 hn hL hL2 hk' h
    rw [if_neg q14]
    by_cases q15 : w = 15
    · rw [if_pos q15]
      exact case15 hL hL2 hk' h
    rw [if_neg q15]
    by_cases q16 : w = 16
    · rw [if_pos q16]
      exact case16 hL hL2 hk' h
    rw [if_neg q16]
    by_cases q17 : w = 17
    · rw [if_pos q17]
      exact case17 hL hL2 hk' h
    rw [if_neg q17]
    by_cases q18 : w = 18
    · rw [if_pos q18]
      exact case18 hn hL hL2 hk' h
    rw [if_neg q18]
    exact hk' _ _ _ _ _ (hRel_ref (rSame_r (hRel_now h)) h)
/-- the relation at the start -/
theorem hRel_0 (hn : 2200 < n) : hRel n 0 chi0 sg0 ta0 rh0 := by
  have hs : rScr n (am_sub (am_sg sg0 26) 1) rh0 0 (fun _ => 0) (fun _ => 0) (fun _ => 0) (fun _ _ => []) := ⟨Nat.zero_le _, rfl, rfl, fun s hs => absurd hs (Nat.not_lt_zero _)⟩
  obtain ⟨D, hD⟩ := det n hn hs
  refine ⟨am_sg sg0 26, rh0, 0, 2, 0, 0, 0, 0, fun _ => 0, fun _ => 0, fun _ => 0, fun _ _ => [], D, ⟨hs, ⟨hD, fun s hs => absurd hs (Nat.not_lt_zero _)⟩, fun _ _ _ => rfl, fun _ _ _ => rfl, rfl, fun _ _ => rfl, by omega, by omega, rfl, rfl, rfl, ⟨0, by omega, rfl⟩, by omega, by omega, rfl, rfl, rfl, rfl, ⟨0, by omega, rfl, rfl, fun k hk => absurd hk (Nat.not_lt_zero _)⟩, rfl, rfl, ⟨0, by omega, rfl⟩⟩, Or.inl rfl, ⟨by omega, rfl, by omega, rfl, Or.inl rfl, fun q => absurd (show (-1 : Int32) = 0 from q) (by decide)⟩, ⟨Or.inl rfl, Or.inl ⟨rfl, fun q => absurd (show (-1 : Int32) = 0 from q) (by decide)⟩⟩, ⟨⟨0, by omega, rfl⟩, Or.inl ⟨rfl, fun q => absurd (show (-1 : Int32) = 2 from q.1) (by decide)⟩⟩, ⟨by decide, by decide, by decide⟩⟩
theorem law_loop (hn : 2200 < n) (hL2 : L ≤ 3072) (h1 : ∀ (c k : Nat) (kont : (Nat → Nat) → am_M → (Nat → Int64) → (Nat → Int64) → am_M → Int32 → Option Bool) (χ : Nat → Nat) (σ : am_M) (τ o : Nat → Int64) (ρ : am_M), c ≤ 600 → k + 5 < L → KT n c kont (nI k) → hRel n c χ σ τ ρ → L_c1 n L xs kont χ σ τ o ρ (nI k) = some true) : ∀ (q c : Nat) (χ : Nat → Nat) (σ : am_M) (τ o : Nat → Int64) (ρ : am_M), c + (q + 1) = 513 → hRel n c χ σ τ ρ → L_loop n L xs (q + 1) χ σ τ o ρ (nI (6 * c)) = some true := by
  intro q
  induction q with
  | zero =>
    intro c χ σ τ o ρ hq h
    simp only [L_loop]
    exact head_ok hn (by omega) hL2 (by omega) (fun q => by omega) (fun q => by omega) h
  | succ q ih =>
    intro c χ σ τ o ρ hq h
    rw [L_loop]
    refine head_ok hn (by omega) hL2 (by omega) (fun _ => fun χ' σ' τ' o' ρ' h' => ?_) (fun z1 z2 => h1 c (6 * c) _ χ σ τ o ρ (by omega) z1 z2 h) h
    rw [show nI (6 * c) + 6 = nI (6 * (c + 1)) from nI_add (6 * c) 6]
    exact ih (c + 1) χ' σ' τ' o' ρ' (by omega) h'
end HEAD
