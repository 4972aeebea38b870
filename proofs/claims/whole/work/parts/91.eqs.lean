/-! STATES THAT ARE EQUAL: in both at once -/
theorem hd_fld {S σ : am_M} {N m h : Nat} {kd : Nat → Nat} {G : Nat → Nat → List Int32} (r : rHD S σ N m kd G h) : ∀ f, f < 8 → σ 15 (8 * h + f) = S 1 (13 * h + (if f < 6 then f else f + 2)) := by
  obtain ⟨⟨a2, a6, a7, a8, a9⟩, t, b, b1, b2, b3, b4, b5, b6, b7, b8, -, -⟩ := r
  intro f hf
  rcases (show f = 0 ∨ f = 1 ∨ (2 ≤ f ∧ f ≤ 5) ∨ f = 6 ∨ f = 7 by omega) with rfl | rfl | h1 | rfl | rfl
  · rw [if_pos (by omega)]; exact b6.trans b5.symm
  · rw [if_pos (by omega)]; exact b8.trans b7.symm
  · rw [if_pos (by omega)]
    have := a2 (f - 2) (by omega)
    rw [show 13 * h + 2 + (f - 2) = 13 * h + f by omega, show 8 * h + 2 + (f - 2) = 8 * h + f by omega] at this
    exact this.symm
  · rw [if_neg (by omega)]; exact a8.symm
  · rw [if_neg (by omega)]; exact a9.symm
theorem hd_eqS {S σ S' σ' : am_M} {N m h : Nat} {kd : Nat → Nat} {G : Nat → Nat → List Int32} (hN : N ≤ 40) (hh : h < 8) (r : rHD S σ N m kd G h) (r' : rHD S' σ' N m kd G h) (e : ∀ f, f < 8 → σ' 15 (8 * h + f) = σ 15 (8 * h + f)) : ∀ j, j < 13 → S' 1 (13 * h + j) = S 1 (13 * h + j) := by
  have f1 := hd_fld r
  have f2 := hd_fld r'
  have low : ∀ j, j < 10 → S' 1 (13 * h + j) = S 1 (13 * h + j) := fun j hj => by
    rcases (show j < 6 ∨ j = 6 ∨ j = 7 ∨ (8 ≤ j ∧ j ≤ 9) by omega) with q | rfl | rfl | q
    · have h1 := f1 j (by omega)
      have h2 := f2 j (by omega)
      rw [if_pos q] at h1 h2
      rw [← h1, ← h2, e j (by omega)]
    · exact r'.1.2.1.trans r.1.2.1.symm
    · exact r'.1.2.2.1.trans r.1.2.2.1.symm
    · have h1 := f1 (j - 2) (by omega)
      have h2 := f2 (j - 2) (by omega)
      rw [if_neg (by omega), show j - 2 + 2 = j by omega] at h1 h2
      rw [← h1, ← h2, e (j - 2) (by omega)]
  intro j hj
  by_cases q : j < 10
  · exact low j q
  · obtain ⟨-, t, b, b1, b2, b3, b4, b5, b6, b7, b8, b9, -⟩ := r
    obtain ⟨-, t', b', c1, c2, c3, c4, c5, c6, c7, c8, c9, -⟩ := r'
    have et : t' = t := by
      have := e 0 (by omega)
      rw [c6, b6] at this
      have := congrArg (ps N) this
      rwa [ps_tgt hN c1, ps_tgt hN b1] at this
    have eb : b' = b := by
      have := e 1 (by omega)
      rw [c8, b8] at this
      exact (nI_eq (by omega) (by omega)).mp this
    subst et eb
    have g1 := b9 (j - 10) (by omega)
    have g2 := c9 (j - 10) (by omega)
    rw [show 13 * h + 10 + (j - 10) = 13 * h + j by omega] at g1 g2
    rw [g1, g2]
    by_cases z : t' < N ∧ b' = 0
    · rw [if_pos z, if_pos z]
      exact aF_congr hh (fun i q1 q2 => low i (by omega))
    · rw [if_neg z, if_neg z]
theorem wd_eqR {w σ w' σ' : am_M} {k : Nat} (r : rWd w σ k) (r' : rWd w' σ' k) (e1 : w' 1 k = w 1 k) (e2 : w' 2 k = w 2 k) (e3 : w' 3 k = w 3 k) : ∀ j, j < 6 → σ' 15 (65 + 6 * k + j) = σ 15 (65 + 6 * k + j) := by
  obtain ⟨b, t, l, g, a1, a2, a3, a4, a5, a6, a7, a8, a9, a10, a11⟩ := r
  obtain ⟨b', t', l', g', c1, c2, c3, c4, c5, c6, c7, c8, c9, c10, c11⟩ := r'
  rw [a9, c9] at e1
  have := (nI_eq (by omega) (by omega)).mp e1
  have e : b' = b ∧ t' = t ∧ l' = l ∧ g' = g := by omega
  obtain ⟨rfl, rfl, rfl, rfl⟩ := e
  intro j hj
  rcases (show j = 0 ∨ j = 1 ∨ j = 2 ∨ j = 3 ∨ j = 4 ∨ j = 5 by omega) with rfl | rfl | rfl | rfl | rfl | rfl
  · rw [a5, c5]
  · rw [a6, c6]
  · rw [← a10, ← c10, e2]
  · rw [← a11, ← c11, e3]
  · rw [a7, c7]
  · rw [a8, c8]
theorem wd_eqS {w σ w' σ' : am_M} {k : Nat} (r : rWd w σ k) (r' : rWd w' σ' k) (e : ∀ j, j < 6 → σ' 15 (65 + 6 * k + j) = σ 15 (65 + 6 * k + j)) : w' 1 k = w 1 k ∧ w' 2 k = w 2 k ∧ w' 3 k = w 3 k := by
  obtain ⟨b, t, l, g, a1, a2, a3, a4, a5, a6, a7, a8, a9, a10, a11⟩ := r
  obtain ⟨b', t', l', g', c1, c2, c3, c4, c5, c6, c7, c8, c9, c10, c11⟩ := r'
  have e0 := e 0 (by omega)
  have e1 := e 1 (by omega)
  have e4 := e 4 (by omega)
  have e5 := e 5 (by omega)
  rw [a5, c5] at e0
  rw [a6, c6] at e1
  rw [a7, c7] at e4
  rw [a8, c8] at e5
  have q0 := (nI_eq (by omega) (by omega)).mp e0
  have q1 := (nI_eq (by omega) (by omega)).mp e1
  have q4 := (nI_eq (by omega) (by omega)).mp e4
  have q5 := (nI_eq (by omega) (by omega)).mp e5
  refine ⟨?_, ?_, ?_⟩
  · rw [a9, c9, q0, q1, q4, q5]
  · rw [a10, c10]; exact e 2 (by omega)
  · rw [a11, c11]; exact e 3 (by omega)
theorem eqSR {S σ S' σ' : am_M} {N m M : Nat} {kd : Nat → Nat} {G : Nat → Nat → List Int32} (m8 : m ≤ 8) (hN : N ≤ 40) (q : rQ S σ N m kd G M) (z : zr σ m) (q' : rQ S' σ' N m kd G M) (z' : zr σ' m) : eqS m S S' M ↔ eqR σ σ' M := by
  obtain ⟨a1, a2, -⟩ := q
  obtain ⟨b1, b2, -⟩ := q'
  constructor
  · rintro ⟨e1, e2, e3⟩
    intro x hx
    by_cases h1 : x < 8 * m
    · have f1 := hd_fld (a1 (x / 8) (by omega)) (x % 8) (Nat.mod_lt _ (by omega))
      have f2 := hd_fld (b1 (x / 8) (by omega)) (x % 8) (Nat.mod_lt _ (by omega))
      rw [show 8 * (x / 8) + x % 8 = x by omega] at f1 f2
      rw [f1, f2]
      refine e1 _ ?_
      split <;> omega
    · by_cases h2 : x < 64
      · rw [z x (by omega) h2, z' x (by omega) h2]
      · by_cases h3 : x = 64
        · subst h3; rw [a2.2.2.1, b2.2.2.1]
        · obtain ⟨k, j, hj, rfl⟩ : ∃ k j, j < 6 ∧ x = 65 + 6 * k + j := ⟨(x - 65) / 6, (x - 65) % 6, Nat.mod_lt _ (by omega), by omega⟩
          obtain ⟨g1, g2, g3⟩ := e3 k (by omega)
          exact wd_eqR (a2.2.2.2 k (by omega)) (b2.2.2.2 k (by omega)) g1 g2 g3 j hj
  · intro e
    refine ⟨fun k hk => ?_, b2.2.1, fun k hk => ?_⟩
    · have := hd_eqS (σ := σ) (σ' := σ') hN (by omega) (a1 (k / 13) (by omega)) (b1 (k / 13) (by omega)) (fun f hf => e _ (by omega)) (k % 13) (Nat.mod_lt _ (by omega))
      rw [show 13 * (k / 13) + k % 13 = k by omega] at this
      exact this
    · exact wd_eqS (a2.2.2.2 k hk) (b2.2.2.2 k hk) (fun j hj => e _ (by omega))
