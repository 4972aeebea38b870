/-! A STEP IS READ: those without STEPS in them -/
def rOuS (n : Nat) (rE : am_M → Int32 → Int32 → Option (Int32 × am_M)) (q2 : am_M) (l1 l2 l3 : Int32) : Option am_M := (X8_readInto n q2 l3 0 0).bind (fun q4 => (X8_word n q4 19).bind (fun q5 => (X8_readInto n q5 l3 1 0).bind (fun q6 => (X8_word n q6 20).bind (fun q7 => (X8_readInto n q7 l3 2 0).bind (fun q8 => (X8_is n q8 21).bind (fun q9 => if q9 = true then (X8_stepOn n q8).bind (fun q11 => (X8_readNumber n q11 1 99).bind (fun q12 => if (40 + l3) < 0 ∨ 80 ≤ (40 + l3).toNatClampNeg then none else (X8_readStep_J475 n rE (sC q12.2 10 (upd (q12.2 10) (40 + l3).toNatClampNeg q12.1))))) else (X8_readStep_J475 n rE q8)))))))
def rInS (n : Nat) (rE : am_M → Int32 → Int32 → Option (Int32 × am_M)) (q2 : am_M) (l1 l2 l3 : Int32) : Option am_M := (if l2 = 3 then (X8_readInto n q2 l3 0 0).bind (fun q38 => X8_readStep_J336 n rE q38 l3) else (X8_readStep_J336 n rE q2 l3))
def rK5 (n : Nat) (rE : am_M → Int32 → Int32 → Option (Int32 × am_M)) (q2 : am_M) (l1 l2 l3 : Int32) : Option am_M := (X8_readStep_J475 n rE q2)
def rK7 (n : Nat) (rE : am_M → Int32 → Int32 → Option (Int32 × am_M)) (q2 : am_M) (l1 l2 l3 : Int32) : Option am_M := (X8_readInto n q2 l3 0 0).bind (fun q45 => (X8_word n q45 22).bind (fun q46 => (X8_readVar n q46).bind (fun q47 => if (40 + l3) < 0 ∨ 80 ≤ (40 + l3).toNatClampNeg then none else (X8_readStep_J475 n rE (sC q47.2 9 (upd (q47.2 9) (40 + l3).toNatClampNeg q47.1))))))
def rK8 (n : Nat) (rE : am_M → Int32 → Int32 → Option (Int32 × am_M)) (q2 : am_M) (l1 l2 l3 : Int32) : Option am_M := (X8_readVar n q2).bind (fun q50 => if (40 + l3) < 0 ∨ 80 ≤ (40 + l3).toNatClampNeg then none else (X8_readInto n (sC q50.2 9 (upd (q50.2 9) (40 + l3).toNatClampNeg q50.1)) l3 0 1).bind (fun q52 => X8_readStep_J475 n rE q52))
def rK9 (n : Nat) (rE : am_M → Int32 → Int32 → Option (Int32 × am_M)) (q2 : am_M) (l1 l2 l3 : Int32) : Option am_M := (X8_readInto n q2 l3 0 1).bind (fun q54 => X8_readStep_J475 n rE q54)
def rK10 (n : Nat) (rE : am_M → Int32 → Int32 → Option (Int32 × am_M)) (q2 : am_M) (l1 l2 l3 : Int32) : Option am_M := (X8_readBranches n rE q2 l3 l1).bind (fun q56 => X8_readStep_J475 n rE q56)
section SIMPLE
variable {n : Nat} {b : Nat → Int32} {A K0 s z0 q0 k0 e : Nat} {S0 R0 S R S' R' R'' : am_M} {done : Nat → Bool} {mk : Nat → Nat} {bd : Bool} {us : Int32} {rE : am_M → Int32 → Int32 → Option (Int32 × am_M)} {l1 : Int32}
theorem PE_e {e' : Nat} (he : e' ≤ e) (h : PE b A K0 s z0 q0 k0 e S0 R0 done mk bd us S R) : PE b A K0 s z0 q0 k0 e' S0 R0 done mk bd us S R := by
  rcases h with ⟨k, z, q, a, b1, b2, b3⟩ | h
  · exact Or.inl ⟨k, z, q, a, by omega, by omega, b3⟩
  · exact Or.inr h
theorem PE_d {d' : Nat → Bool} (hd : ∀ w, w < 3 → done w = d' w) (h : PE b A K0 s z0 q0 k0 e S0 R0 done mk bd us S R) : PE b A K0 s z0 q0 k0 e S0 R0 d' mk bd us S R := by
  rcases h with ⟨k, z, q, a, b1, b2, b3, b4, b5, c1, c2, c3⟩ | h
  · exact Or.inl ⟨k, z, q, a, b1, b2, b3, b4, b5, c1, c2, fun w hw => by rw [← hd w hw]; exact c3.1 w hw, c3.2⟩
  · exact Or.inr h
theorem end_op (hn : 2200 < n) (hK : KB b A K0) (hm : ∀ w, w < 3 → mk w < 3) (h : PE b A K0 s z0 q0 k0 e S0 R0 done mk bd us S R) : ∃ S' R', X1_oneStep_J93 n S = some S' ∧ X8_readStep_J475 n rE R = some R' ∧ PE b A K0 s z0 q0 k0 0 S0 R0 done mk bd us S' R' := by
  obtain ⟨S', R', c, r, h⟩ := sign_op hn hK hm h
  unfold X1_oneStep_J93 X8_readStep_J475
  rw [c, r]
  exact ⟨S', R', rfl, rfl, PE_e (Nat.zero_le _) h⟩
/-- 'send', 'meet', 'begin' -/
theorem out_op (hn : 2200 < n) (hK : KB b A K0) (hs : s < 40) (hmk : ∀ w, w < 3 → mk w = w) (l2 : Int32) (h : PE b A K0 s z0 q0 k0 1 S0 R0 (fun _ => false) mk false (nI 1) S R) : ∃ S' R', (X1_outward n S (nI s)).bind (fun q => X1_oneStep_J93 n q) = some S' ∧ rOuS n rE R l1 l2 (nI s) = some R' ∧ PE b A K0 s z0 q0 k0 0 S0 R0 (fun _ => true) mk true (nI 1) S' R' := by
  have hm : ∀ w, w < 3 → mk w < 3 := fun w hw => by rw [hmk w hw]; exact hw
  obtain ⟨S1, R1, c1, r1, h1⟩ := ask_op hn hK hs (w := 0) (k3 := 0) (by omega) (by omega) (fl := 0) (Or.inl rfl) hm (fun w' _ hd => absurd hd Bool.false_ne_true) (hmk 0 (by omega)) h
  obtain ⟨S2, R2, c2, r2, h2⟩ := word_op hn hK hm (i := 18) (by omega) h1
  obtain ⟨S3, R3, c3, r3, h3⟩ := ask_op hn hK hs (w := 1) (k3 := 1) (by omega) (by omega) (fl := 0) (Or.inl rfl) hm (fun w' hw hd => by
    rcases (show w' = 0 ∨ w' = 1 ∨ w' = 2 by omega) with rfl | rfl | rfl
    · rw [hmk 0 (by omega)]; exact ⟨by omega, by omega⟩
    · exact absurd hd (by decide)
    · exact absurd hd (by decide)) (hmk 1 (by omega)) h2
  obtain ⟨S4, R4, c4, r4, h4⟩ := word_op hn hK hm (i := 19) (by omega) h3
  obtain ⟨S5, R5, c5, r5, h5⟩ := ask_op hn hK hs (w := 2) (k3 := 2) (by omega) (by omega) (fl := 0) (Or.inl rfl) hm (fun w' hw hd => by
    rcases (show w' = 0 ∨ w' = 1 ∨ w' = 2 by omega) with rfl | rfl | rfl
    · rw [hmk 0 (by omega)]; exact ⟨by omega, by omega⟩
    · rw [hmk 1 (by omega)]; exact ⟨by omega, by omega⟩
    · exact absurd hd (by decide)) (hmk 2 (by omega)) h4
  obtain ⟨S6, c6, h6⟩ := bound_op hn hK hs (i := 20) (ub := 1) (by omega) (by omega) (by omega) h5
  have C1 : X1_ask n S (nI s) 0 0 = some S1 := c1
  have C2 : X1_need S1 18 = some S2 := c2
  have C3 : X1_ask n S2 (nI s) 1 0 = some S3 := c3
  have C4 : X1_need S3 19 = some S4 := c4
  have C5 : X1_ask n S4 (nI s) 2 0 = some S5 := c5
  have C6 : X1_bound S5 (nI s) 20 1 = some S6 := c6
  have Q1 : X8_readInto n R (nI s) 0 0 = some R1 := r1
  have Q3 : X8_readInto n R2 (nI s) 1 0 = some R3 := r3
  have Q5 : X8_readInto n R4 (nI s) 2 0 = some R5 := r5
  unfold X1_outward rOuS
  rw [C1, Q1]
  dsimp only [Option.bind]
  rw [C2, r2]
  dsimp only
  rw [C3, Q3]
  dsimp only
  rw [C4, r4]
  dsimp only
  rw [C5, Q5]
  dsimp only
  rw [C6]
  dsimp only
  have hd3 : ∀ w, w < 3 → (fun x => x == 2 || (x == 1 || (x == 0 || false))) w = (fun _ => true) w := by decide
  rcases h6 with ⟨g1, g2⟩ | ⟨g1, R6, x, R7, g2, g3, g4⟩
  · rw [g1]
    dsimp only
    rw [if_neg Bool.false_ne_true]
    obtain ⟨S', R', u, v, w⟩ := end_op (rE := rE) hn hK hm g2
    exact ⟨S', R', u, v, PE_d hd3 w⟩
  · rw [g1]
    dsimp only
    rw [if_pos rfl, g2]
    dsimp only
    rw [g3]
    dsimp only
    rw [show (40 : Int32) + nI s = nI (40 + s) from nI_add 40 s, if_neg (pu_g (n := 80) (by omega) (by omega)), nI_clamp (by omega)]
    obtain ⟨S', R', u, v, w⟩ := end_op (rE := rE) hn hK hm g4
    exact ⟨S', R', u, v, PE_d hd3 w⟩
/-- 'wait', 'any': what comes behind the HAND -/
theorem in_op (hn : 2200 < n) (hK : KB b A K0) (hs : s < 40) (hmk : ∀ w, w < 3 → mk w = w) (hdn : ∀ w, w < 3 → done w = true → w = 0) (h : PE b A K0 s z0 q0 k0 0 S0 R0 done mk false (nI 99) S R) : ∃ S' R', (X1_inward_J12 n S (nI s)).bind (fun q => X1_oneStep_J93 n q) = some S' ∧ X8_readStep_J336 n rE R (nI s) = some R' ∧ PE b A K0 s z0 q0 k0 0 S0 R0 (fun x => x == 1 || done x) mk true (nI 99) S' R' := by
  have hm : ∀ w, w < 3 → mk w < 3 := fun w hw => by rw [hmk w hw]; exact hw
  obtain ⟨S2, R2, c2, r2, h2⟩ := word_op hn hK hm (i := 18) (by omega) h
  obtain ⟨S3, R3, c3, r3, h3⟩ := ask_op hn hK hs (w := 1) (k3 := 1) (by omega) (by omega) (fl := 0) (Or.inl rfl) hm (fun w' hw hd => by
    rw [hdn w' hw hd, hmk 0 (by omega)]
    exact ⟨by omega, by omega⟩) (hmk 1 (by omega)) h2
  obtain ⟨S4, R4, c4, r4, h4⟩ := word_op hn hK hm (i := 21) (by omega) h3
  obtain ⟨S5, x5, R5, c5, r5, h5⟩ := var_op hn hK hs h4
  obtain ⟨S6, c6, h6⟩ := bound_op hn hK hs (i := 22) (ub := 99) (by omega) (by omega) (by omega) h5
  have C2 : X1_need S 18 = some S2 := c2
  have C3 : X1_ask n S2 (nI s) 1 0 = some S3 := c3
  have C4 : X1_need S3 21 = some S4 := c4
  have C6 : X1_bound S5 (nI s) 22 99 = some S6 := c6
  have Q3 : X8_readInto n R2 (nI s) 1 0 = some R3 := r3
  unfold X1_inward_J12 X8_readStep_J336
  rw [C2, r2]
  dsimp only [Option.bind]
  rw [C3, Q3]
  dsimp only
  rw [C4, r4]
  dsimp only
  rw [c5, r5]
  dsimp only
  rw [C6]
  dsimp only
  rw [show (40 : Int32) + nI s = nI (40 + s) from nI_add 40 s, if_neg (pu_g (n := 80) (by omega) (by omega)), nI_clamp (by omega)]
  rcases h6 with ⟨g1, g2⟩ | ⟨g1, R6, x, R7, g2, g3, g4⟩
  · rw [g1]
    dsimp only
    rw [if_neg Bool.false_ne_true]
    exact end_op (rE := rE) hn hK hm g2
  · rw [g1]
    dsimp only
    rw [if_pos rfl, g2]
    dsimp only
    rw [g3]
    dsimp only
    rw [if_neg (pu_gn (n := 80) (by omega) (by omega))]
    exact end_op (rE := rE) hn hK hm g4
/-- the class's body of a STEP that isn't an 'if' -/
def clsB (n : Nat) (S : am_M) (a l1 : Int32) : Option am_M := if 2 < l1 then (if 4 < l1 then (X1_alone n S a l1).bind (fun q7 => X1_oneStep_J93 n q7) else (X1_inward n S a l1).bind (fun q8 => X1_oneStep_J93 n q8)) else (X1_outward n S a).bind (fun q9 => X1_oneStep_J93 n q9)
theorem step_simple (hn : 2200 < n) (hK : KB b A K0) (hs : s < 40) {kd : Nat} (hkd : kd ≤ 9) (h : PE b A K0 s z0 q0 k0 1 S0 R0 (fun _ => false) (mkA kd) false (nI (if kd = 3 ∨ kd = 4 then 99 else 1)) S R) : ∃ S' R', clsB n S (nI s) (nI kd) = some S' ∧ rSw n rE R l1 (nI kd) (nI s) = some R' ∧ PE b A K0 s z0 q0 k0 0 S0 R0 (hasA kd) (mkA kd) (decide (kd ≤ 4)) (nI (if kd = 3 ∨ kd = 4 then 99 else 1)) S' R' := by
  have id4 : ∀ kd, kd ≤ 4 → ∀ w, w < 3 → mkA kd w = w := fun kd h w _ => by
    unfold mkA
    rw [if_pos h]
  have m0 : ∀ kd, 4 < kd → ∀ w, w < 3 → mkA kd w < 3 := fun kd h w _ => by
    unfold mkA
    rw [if_neg (by omega)]
    omega
  have z0' : ∀ kd, 4 < kd → ∀ w, mkA kd w = 0 := fun kd h w => by
    unfold mkA
    rw [if_neg (by omega)]
  unfold clsB
  rcases (show kd = 0 ∨ kd = 1 ∨ kd = 2 ∨ kd = 3 ∨ kd = 4 ∨ kd = 5 ∨ kd = 6 ∨ kd = 7 ∨ kd = 8 ∨ kd = 9 by omega) with rfl | rfl | rfl | rfl | rfl | rfl | rfl | rfl | rfl | rfl
  · obtain ⟨S', R', u, v, w⟩ := out_op (rE := rE) (l1 := l1) hn hK hs (id4 0 (by omega)) (nI 0) h
    refine ⟨S', R', ?_, v, PE_d (by decide) w⟩
    rw [if_neg (show ¬ (2 : Int32) < nI 0 by decide)]
    exact u
  · obtain ⟨S', R', u, v, w⟩ := out_op (rE := rE) (l1 := l1) hn hK hs (id4 1 (by omega)) (nI 1) h
    refine ⟨S', R', ?_, v, PE_d (by decide) w⟩
    rw [if_neg (show ¬ (2 : Int32) < nI 1 by decide)]
    exact u
  · obtain ⟨S', R', u, v, w⟩ := out_op (rE := rE) (l1 := l1) hn hK hs (id4 2 (by omega)) (nI 2) h
    refine ⟨S', R', ?_, v, PE_d (by decide) w⟩
    rw [if_neg (show ¬ (2 : Int32) < nI 2 by decide)]
    exact u
  · obtain ⟨S1, R1, c1, r1, h1⟩ := ask_op hn hK hs (w := 0) (k3 := 0) (by omega) (by omega) (fl := 0) (Or.inl rfl) (fun w hw => by rw [id4 3 (by omega) w hw]; exact hw) (fun w' _ hd => absurd hd Bool.false_ne_true) (id4 3 (by omega) 0 (by omega)) h
    obtain ⟨S', R', u, v, w⟩ := in_op (rE := rE) hn hK hs (id4 3 (by omega)) (by decide) h1
    have C1 : X1_ask n S (nI s) 0 0 = some S1 := c1
    have Q1 : X8_readInto n R (nI s) 0 0 = some R1 := r1
    refine ⟨S', R', ?_, ?_, PE_d (by decide) w⟩
    · rw [if_pos (show (2 : Int32) < nI 3 by decide), if_neg (show ¬ (4 : Int32) < nI 3 by decide)]
      unfold X1_inward
      rw [if_pos (show nI 3 = (3 : Int32) from rfl), C1]
      exact u
    · show (X8_readInto n R (nI s) 0 0).bind (fun q38 => X8_readStep_J336 n rE q38 (nI s)) = _
      rw [Q1]
      exact v
  · obtain ⟨S', R', u, v, w⟩ := in_op (rE := rE) hn hK hs (id4 4 (by omega)) (fun w _ hd => absurd hd Bool.false_ne_true) (PE_e (by omega) h)
    refine ⟨S', R', ?_, v, PE_d (by decide) w⟩
    rw [if_pos (show (2 : Int32) < nI 4 by decide), if_neg (show ¬ (4 : Int32) < nI 4 by decide)]
    unfold X1_inward
    rw [if_neg (show ¬ nI 4 = (3 : Int32) by decide)]
    exact u
  · obtain ⟨S', R', u, v, w⟩ := end_op (rE := rE) hn hK (m0 5 (by omega)) h
    refine ⟨S', R', ?_, v, PE_d (by decide) w⟩
    rw [if_pos (show (2 : Int32) < nI 5 by decide), if_pos (show (4 : Int32) < nI 5 by decide)]
    exact u
  · obtain ⟨S', R', u, v, w⟩ := end_op (rE := rE) hn hK (m0 6 (by omega)) h
    refine ⟨S', R', ?_, v, PE_d (by decide) w⟩
    rw [if_pos (show (2 : Int32) < nI 6 by decide), if_pos (show (4 : Int32) < nI 6 by decide)]
    exact u
  · obtain ⟨S1, R1, c1, r1, h1⟩ := ask_op hn hK hs (w := 2) (k3 := 0) (by omega) (by omega) (fl := 0) (Or.inl rfl) (m0 7 (by omega)) (fun w' _ hd => absurd hd Bool.false_ne_true) (z0' 7 (by omega) 2) h
    obtain ⟨S2, R2, c2, r2, h2⟩ := word_op hn hK (m0 7 (by omega)) (i := 21) (by omega) h1
    obtain ⟨S3, x3, R3, c3, r3, h3⟩ := var_op hn hK hs h2
    obtain ⟨S', R', u, v, w⟩ := end_op (rE := rE) hn hK (m0 7 (by omega)) h3
    have C1 : X1_ask n S (nI s) 2 0 = some S1 := c1
    have C2 : X1_need S1 21 = some S2 := c2
    have Q1 : X8_readInto n R (nI s) 0 0 = some R1 := r1
    refine ⟨S', R', ?_, ?_, PE_d (by decide) w⟩
    · rw [if_pos (show (2 : Int32) < nI 7 by decide), if_pos (show (4 : Int32) < nI 7 by decide)]
      unfold X1_alone
      rw [if_pos (show nI 7 = (7 : Int32) from rfl), C1]
      dsimp only [Option.bind]
      rw [C2]
      dsimp only
      rw [c3]
      exact u
    · show rK7 n rE R l1 (nI 7) (nI s) = _
      unfold rK7
      rw [Q1]
      dsimp only [Option.bind]
      rw [r2]
      dsimp only
      rw [r3]
      dsimp only
      rw [show (40 : Int32) + nI s = nI (40 + s) from nI_add 40 s, if_neg (pu_g (n := 80) (by omega) (by omega)), nI_clamp (by omega)]
      exact v
  · obtain ⟨S3, x3, R3, c3, r3, h3⟩ := var_op hn hK hs h
    obtain ⟨S1, R1, c1, r1, h1⟩ := ask_op hn hK hs (w := 2) (k3 := 0) (by omega) (by omega) (fl := 1) (Or.inr rfl) (m0 8 (by omega)) (fun w' _ hd => absurd hd Bool.false_ne_true) (z0' 8 (by omega) 2) (PE_e (by omega) h3)
    obtain ⟨S', R', u, v, w⟩ := end_op (rE := rE) hn hK (m0 8 (by omega)) h1
    have C1 : X1_ask n S3 (nI s) 2 1 = some S1 := c1
    refine ⟨S', R', ?_, ?_, PE_d (by decide) w⟩
    · rw [if_pos (show (2 : Int32) < nI 8 by decide), if_pos (show (4 : Int32) < nI 8 by decide)]
      unfold X1_alone
      rw [if_neg (show ¬ nI 8 = (7 : Int32) by decide), if_pos (show nI 8 = (8 : Int32) from rfl), c3]
      dsimp only [Option.bind]
      rw [C1]
      exact u
    · show rK8 n rE R l1 (nI 8) (nI s) = _
      unfold rK8
      rw [r3]
      dsimp only [Option.bind]
      rw [show (40 : Int32) + nI s = nI (40 + s) from nI_add 40 s, if_neg (pu_g (n := 80) (by omega) (by omega)), nI_clamp (by omega)]
      have Q1 : X8_readInto n (sC R3 9 (upd (R3 9) (40 + s) x3)) (nI s) 0 1 = some R1 := r1
      rw [Q1]
      exact v
  · obtain ⟨S1, R1, c1, r1, h1⟩ := ask_op hn hK hs (w := 2) (k3 := 0) (by omega) (by omega) (fl := 1) (Or.inr rfl) (m0 9 (by omega)) (fun w' _ hd => absurd hd Bool.false_ne_true) (z0' 9 (by omega) 2) h
    obtain ⟨S', R', u, v, w⟩ := end_op (rE := rE) hn hK (m0 9 (by omega)) h1
    have C1 : X1_ask n S (nI s) 2 1 = some S1 := c1
    have Q1 : X8_readInto n R (nI s) 0 1 = some R1 := r1
    refine ⟨S', R', ?_, ?_, PE_d (by decide) w⟩
    · rw [if_pos (show (2 : Int32) < nI 9 by decide), if_pos (show (4 : Int32) < nI 9 by decide)]
      unfold X1_alone
      rw [if_neg (show ¬ nI 9 = (7 : Int32) by decide), if_neg (show ¬ nI 9 = (8 : Int32) by decide), if_pos (show nI 9 = (9 : Int32) from rfl), C1]
      exact u
    · show rK9 n rE R l1 (nI 9) (nI s) = _
      unfold rK9
      rw [Q1]
      exact v
end SIMPLE
