/-! THE LAW'S CASES: what is told of a PLAY -/
section TOLD
variable {n c L : Nat} {xs : Nat → Int32} {kont : (Nat → Nat) → am_M → (Nat → Int64) → (Nat → Int64) → am_M → Int32 → Option Bool} {χ : Nat → Nat} {σ : am_M} {τ o : Nat → Int64} {ρ : am_M} {k : Nat}
theorem ltm1 {a : Int32} (h : a < 0) (h2 : a ≠ -1) : a < -1 := by
  rw [Int32.lt_iff_toInt_lt] at *
  have h3 : a.toInt ≠ -1 := fun e => h2 (Int32.toInt_inj.mp (e.trans (by decide)))
  have e1 : (-1 : Int32).toInt = -1 := by decide
  have e0 : (0 : Int32).toInt = 0 := by decide
  omega
theorem idx3 {a : Int32} {z : Nat} (hz : z < 2147483640) : (a = -1 ∧ ¬ a < -1 ∧ a < nI z) ∨ (∃ j, j < z ∧ a = nI j ∧ ¬ a < -1 ∧ a < nI z ∧ a ≠ -1 ∧ X8_isIn a 0 (nI z - 1) = true) ∨ ((a < -1 ∨ (¬ a < -1 ∧ ¬ a < nI z)) ∧ a ≠ -1 ∧ X8_isIn a 0 (nI z - 1) = false) := by
  have h0 : ∀ y : Nat, y < 2147483640 → ¬ nI y < 0 := fun y hy q => pu_g (n := y + 1) (by omega) (by omega) (Or.inl q)
  by_cases h1 : a = -1
  · left
    rw [h1]
    exact ⟨rfl, by decide, Int32.lt_of_lt_of_le (show (-1 : Int32) < 0 by decide) (Int32.not_lt.mp (h0 z hz))⟩
  · rcases in_pred (a := a) (N := z) (by omega) with ⟨j, j1, j2, j3, j4, j5⟩ | ⟨j3, j4 | ⟨j4, j5⟩⟩
    · exact Or.inr (Or.inl ⟨j, j1, j2, fun q => j4 (Int32.lt_trans q (by decide)), j5, h1, j3⟩)
    · exact Or.inr (Or.inr ⟨Or.inl (ltm1 j4 h1), h1, j3⟩)
    · exact Or.inr (Or.inr ⟨Or.inr ⟨fun q => j4 (Int32.lt_trans q (by decide)), j5⟩, h1, j3⟩)
theorem pl_at {m tv : Nat} (h5 : hPl n χ σ ρ m tv) : (σ 0 9 = 0 ∧ X8_hasPlay (sC ρ 0 (am_u (ρ 0) 2 0)) = false) ∨ (σ 0 9 = 1 ∧ X8_hasPlay (sC ρ 0 (am_u (ρ 0) 2 0)) = true ∧ χ 47 = 18 ∧ plI n (am_sg σ 46) (sC ρ 0 (am_u (ρ 0) 2 0)) m) := by
  have e : X8_hasPlay (sC ρ 0 (am_u (ρ 0) 2 0)) = if ρ 0 57 = ρ 0 3 then (if ρ 0 58 = ρ 0 8 then true else false) else false := rfl
  rw [e]
  rcases h5 with ⟨-, ⟨q1, q2⟩ | ⟨q1, q2, q3, q4, q5⟩⟩
  · refine Or.inl ⟨q1, ?_⟩
    by_cases y1 : ρ 0 57 = ρ 0 3
    · rw [if_pos y1, if_neg (fun y2 => q2 ⟨y1, y2⟩)]
    · rw [if_neg y1]
  · exact Or.inr ⟨q1, by rw [if_pos q2, if_pos q3], q4, plI_congr rfl rfl rfl rfl rfl rfl rfl rfl q5⟩
/-- an answer or a throw of both, where the class changes nothing -/
theorem ans2 {q : Option (Option Int32)} {w : Option (Int32 × am_M)} (hk : KT n c kont (nI k)) (h : ∃ r b ρ', q = some r ∧ w = some (b, ρ') ∧ hRel n (c + 1) χ σ τ ρ' ∧ ((∃ v, r = some v ∧ ρ' 0 2 = 0 ∧ b = v) ∨ (r = none ∧ ρ' 0 2 = 1))) : q.bind (fun q2 => w.bind (fun q3 => if (X8_thrown q3.2) = (hR q2) then (if (hR q2) = 0 then (if (lg_cmp ((hO id o q2) (0 : Int32).toNatClampNeg) q3.1.toInt64) = 0 then (kont χ σ τ (hO id o q2) q3.2 (nI k + 6)) else (some false)) else (kont χ σ τ (hO id o q2) q3.2 (nI k + 6))) else (some false))) = some true := by
  obtain ⟨r, b, ρ', rfl, rfl, h4, h5⟩ := h
  dsimp only [Option.bind]
  exact thr_end (α := Int32) hk h4 h5
theorem case16 (hL : k + 5 < L) (hL2 : L ≤ 3072) (hk : KT n c kont (nI k)) (h : hRel n c χ σ τ ρ) : L_c16 n L xs kont χ σ τ o ρ (nI k) = some true := by
  have hr0 := hRel_ref (rSame_2 (a := 0) (hRel_now h)) h
  have hr1 := hRel_ref (rSame_2 (a := 1) (hRel_now h)) h
  obtain ⟨F, H, N, m, x, y, v, tv, kd, nx, ot, G, D, h1, -, -, -, h5, -⟩ := h
  unfold L_c16
  rw [nI_1, if_neg (pu_g (n := L) (by omega) (by omega))]
  generalize xs (nI (k + 1)).toNatClampNeg = a
  refine ans2 hk ?_
  have fl : X8_ring_J31 (sC ρ 0 (am_u (ρ 0) 2 0)) = some ((0 : Int32), sC ρ 0 (am_u (ρ 0) 2 1)) := by
    unfold X8_ring_J31 X8_fail
    dsimp only [Option.bind]
    rw [code_21]
  have bad : X7_ring σ a = some none → X8_ring ρ a = X8_ring_J31 (sC ρ 0 (am_u (ρ 0) 2 0)) → ∃ r b ρ', X7_ring σ a = some r ∧ X8_ring ρ a = some (b, ρ') ∧ hRel n (c + 1) χ σ τ ρ' ∧ ((∃ v, r = some v ∧ ρ' 0 2 = 0 ∧ b = v) ∨ (r = none ∧ ρ' 0 2 = 1)) := fun z1 z2 => ⟨_, _, _, z1, z2.trans fl, hr1, Or.inr ⟨rfl, rfl⟩⟩
  rcases pl_at h5 with ⟨p1, p2⟩ | ⟨p1, p2, -, -, ⟨z, z1, z2, z3, z4⟩, -⟩
  · refine bad ?_ ?_
    · unfold X7_ring X7_ring_J23
      rw [if_pos p1]
    · unfold X8_ring
      rw [p2, if_neg Bool.false_ne_true]
  · have e46 : σ 46 6 = nI z := z2
    have e59 : ∀ x, σ 59 x = (am_sg σ 46) 21 x := fun _ => rfl
    rcases idx3 (a := a) (z := z) (by omega) with ⟨i1, i2, i3⟩ | ⟨j, i0, i1, i2, i3, i4, i5⟩ | ⟨i2, i4, i5⟩
    · refine ⟨some (nI z), nI z, _, ?_, ?_, hr0, Or.inl ⟨_, rfl, rfl, rfl⟩⟩
      · unfold X7_ring
        rw [if_neg (by rw [p1]; decide), if_neg i2, e46, if_pos i3, if_pos i1]
      · unfold X8_ring X8_ring_J37
        rw [p2, if_pos rfl, if_pos i1, if_pos i1, z3]
    · refine ⟨some ((am_sg σ 46) 21 j), _, _, ?_, ?_, hr0, Or.inl ⟨_, rfl, rfl, (z4 j i0).symm⟩⟩
      · unfold X7_ring
        rw [if_neg (by rw [p1]; decide), if_neg i2, e46, if_pos i3, if_neg i4, i1, jat_nI (by omega) (by omega), e59]
      · have z3' : ρ 0 60 = nI z := z3
        unfold X8_ring X8_ring_J37
        rw [p2, if_pos rfl, if_neg i4, z3', if_pos i5, if_neg i4, i1, if_neg (pu_g (n := 8) (by omega) (by omega)), nI_clamp (by omega)]
    · refine bad ?_ ?_
      · unfold X7_ring X7_ring_J23
        rw [if_neg (by rw [p1]; decide), e46]
        rcases i2 with q | ⟨q1, q2⟩
        · rw [if_pos q]
        · rw [if_neg q1, if_neg q2]
      · have z3' : ρ 0 60 = nI z := z3
        unfold X8_ring
        rw [p2, if_pos rfl, if_neg i4, z3', i5, if_neg Bool.false_ne_true]
theorem case17 (hL : k + 5 < L) (hL2 : L ≤ 3072) (hk : KT n c kont (nI k)) (h : hRel n c χ σ τ ρ) : L_c17 n L xs kont χ σ τ o ρ (nI k) = some true := by
  have hr0 := hRel_ref (rSame_2 (a := 0) (hRel_now h)) h
  have hr1 := hRel_ref (rSame_2 (a := 1) (hRel_now h)) h
  obtain ⟨F, H, N, m, x, y, v, tv, kd, nx, ot, G, D, h1, -, -, -, h5, -⟩ := h
  unfold L_c17
  rw [nI_1, if_neg (pu_g (n := L) (by omega) (by omega))]
  generalize xs (nI (k + 1)).toNatClampNeg = a
  refine ans2 hk ?_
  have fl : X8_chose_J31 (sC ρ 0 (am_u (ρ 0) 2 0)) = some ((0 : Int32), sC ρ 0 (am_u (ρ 0) 2 1)) := by
    unfold X8_chose_J31 X8_fail
    dsimp only [Option.bind]
    rw [code_21]
  have bad : X7_chose σ a = some none → X8_chose ρ a = X8_chose_J31 (sC ρ 0 (am_u (ρ 0) 2 0)) → ∃ r b ρ', X7_chose σ a = some r ∧ X8_chose ρ a = some (b, ρ') ∧ hRel n (c + 1) χ σ τ ρ' ∧ ((∃ v, r = some v ∧ ρ' 0 2 = 0 ∧ b = v) ∨ (r = none ∧ ρ' 0 2 = 1)) := fun z1 z2 => ⟨_, _, _, z1, z2.trans fl, hr1, Or.inr ⟨rfl, rfl⟩⟩
  rcases pl_at h5 with ⟨p1, p2⟩ | ⟨p1, p2, -, -, -, ⟨z, z1, z2, z3, z4⟩⟩
  · refine bad ?_ ?_
    · unfold X7_chose X7_chose_J23
      rw [if_pos p1]
    · unfold X8_chose
      rw [p2, if_neg Bool.false_ne_true]
  · have e46 : σ 46 4 = nI z := z2
    have e59 : ∀ x, σ 58 x = (am_sg σ 46) 20 x := fun _ => rfl
    rcases idx3 (a := a) (z := z) (by omega) with ⟨i1, i2, i3⟩ | ⟨j, i0, i1, i2, i3, i4, i5⟩ | ⟨i2, i4, i5⟩
    · refine ⟨some (nI z), nI z, _, ?_, ?_, hr0, Or.inl ⟨_, rfl, rfl, rfl⟩⟩
      · unfold X7_chose
        rw [if_neg (by rw [p1]; decide), if_neg i2, e46, if_pos i3, if_pos i1]
      · unfold X8_chose X8_chose_J37
        rw [p2, if_pos rfl, if_pos i1, if_pos i1, z3]
    · refine ⟨some ((am_sg σ 46) 20 j), _, _, ?_, ?_, hr0, Or.inl ⟨_, rfl, rfl, (z4 j i0).symm⟩⟩
      · unfold X7_chose
        rw [if_neg (by rw [p1]; decide), if_neg i2, e46, if_pos i3, if_neg i4, i1, jat_nI (by omega) (by omega), e59]
      · have z3' : ρ 0 68 = nI z := z3
        unfold X8_chose X8_chose_J37
        rw [p2, if_pos rfl, if_neg i4, z3', if_pos i5, if_neg i4, i1, if_neg (pu_g (n := 320) (by omega) (by omega)), nI_clamp (by omega)]
    · refine bad ?_ ?_
      · unfold X7_chose X7_chose_J23
        rw [if_neg (by rw [p1]; decide), e46]
        rcases i2 with q | ⟨q1, q2⟩
        · rw [if_pos q]
        · rw [if_neg q1, if_neg q2]
      · have z3' : ρ 0 68 = nI z := z3
        unfold X8_chose
        rw [p2, if_pos rfl, if_neg i4, z3', i5, if_neg Bool.false_ne_true]
theorem of_val {P R : am_M} {m h : Nat} (m8 : m ≤ 8) (hh : h < m) (pl : plI n P R m) (hp : X8_hasPlay R = true) : ∀ g, g ≤ 11 → g ≠ 7 → ∃ v, X0_tellHand n P (nI h) (nI g) = some v ∧ X8_of_J34 R (nI h) (nI g) = some (v, R) := by
  obtain ⟨⟨h9, h10, h28, b, b1, b2, b3⟩, -, -⟩ := And.intro (pl.1 h hh) (And.intro True.intro True.intro)
  have e8 : (8 : Int32) * nI h = nI (8 * h) := pk_mul 8 h
  have a28 : ∀ f, f < 8 → ¬ (nI (8 * h + f) < 0 ∨ 1985 ≤ (nI (8 * h + f)).toNatClampNeg) := fun f hf => pu_g (n := 1985) (by omega) (by omega)
  have c28 : ∀ f, f < 8 → (nI (8 * h + f)).toNatClampNeg = 8 * h + f := fun f hf => nI_clamp (by omega)
  have g8 : ¬ (nI h < 0 ∨ 8 ≤ (nI h).toNatClampNeg) := pu_g (n := 8) (by omega) (by omega)
  have ch : (nI h).toNatClampNeg = h := nI_clamp (by omega)
  have gt : ∀ f, f < 13 → X2_get (am_sub P 1) (nI h) (nI f) = P 2 (13 * h + f) := fun f hf => X2_get_eq (by omega) hf
  intro g hg g7
  unfold X0_tellHand X8_of_J34
  rw [if_pos hp, e8, show nI (8 * h) + 0 = nI (8 * h + 0) from nI_add _ 0, show nI (8 * h) + 7 = nI (8 * h + 7) from nI_add _ 7, show nI (8 * h) + 6 = nI (8 * h + 6) from nI_add _ 6, show nI (8 * h) + 1 = nI (8 * h + 1) from nI_add _ 1, show nI (8 * h) + 2 = nI (8 * h + 2) from nI_add _ 2]
  have ne : ∀ z : Nat, z < 8 → g ≠ z → ¬ nI g = nI z := fun z hz q e => q ((nI_eq (by omega) (by omega)).mp e)
  by_cases g0 : g = 0
  · rw [if_pos (show nI g = (0 : Int32) by rw [g0]; rfl), if_pos (show nI g = (0 : Int32) by rw [g0]; rfl), jat_nI (by omega) (by omega), if_neg g8, ch]
    exact ⟨_, rfl, by rw [h9]⟩
  rw [if_neg (show ¬ nI g = (0 : Int32) from ne 0 (by omega) g0), if_neg (show ¬ nI g = (0 : Int32) from ne 0 (by omega) g0)]
  by_cases g1 : g = 1
  · rw [if_pos (show nI g = (1 : Int32) by rw [g1]; rfl), if_pos (show nI g = (1 : Int32) by rw [g1]; rfl), jat_nI (by omega) (by omega), if_neg g8, ch]
    exact ⟨_, rfl, by rw [h10]⟩
  rw [if_neg (show ¬ nI g = (1 : Int32) from ne 1 (by omega) g1), if_neg (show ¬ nI g = (1 : Int32) from ne 1 (by omega) g1)]
  by_cases g2 : g = 2
  · rw [if_pos (show nI g = (2 : Int32) by rw [g2]; rfl), if_pos (show nI g = (2 : Int32) by rw [g2]; rfl), if_neg (a28 0 (by omega)), c28 0 (by omega), h28 0 (by omega)]
    exact ⟨_, rfl, by rw [show X2_get (am_sub P 1) (nI h) 0 = P 2 (13 * h + 0) from gt 0 (by omega), if_pos (show 0 < 6 by omega)]⟩
  rw [if_neg (show ¬ nI g = (2 : Int32) from ne 2 (by omega) g2), if_neg (show ¬ nI g = (2 : Int32) from ne 2 (by omega) g2)]
  by_cases g3 : g = 3
  · rw [if_pos (show nI g = (3 : Int32) by rw [g3]; rfl), if_pos (show nI g = (3 : Int32) by rw [g3]; rfl), if_neg (a28 7 (by omega)), c28 7 (by omega), h28 7 (by omega)]
    exact ⟨_, rfl, by rw [show X2_get (am_sub P 1) (nI h) 9 = P 2 (13 * h + 9) from gt 9 (by omega), if_neg (show ¬ 7 < 6 by omega)]⟩
  rw [if_neg (show ¬ nI g = (3 : Int32) from ne 3 (by omega) g3), if_neg (show ¬ nI g = (3 : Int32) from ne 3 (by omega) g3)]
  by_cases g4 : g = 4
  · rw [if_pos (show nI g = (4 : Int32) by rw [g4]; rfl), if_pos (show nI g = (4 : Int32) by rw [g4]; rfl), if_neg (a28 6 (by omega)), c28 6 (by omega), h28 6 (by omega)]
    exact ⟨_, rfl, by rw [show X2_get (am_sub P 1) (nI h) 8 = P 2 (13 * h + 8) from gt 8 (by omega), if_neg (show ¬ 6 < 6 by omega)]⟩
  rw [if_neg (show ¬ nI g = (4 : Int32) from ne 4 (by omega) g4), if_neg (show ¬ nI g = (4 : Int32) from ne 4 (by omega) g4)]
  by_cases g5 : g = 5
  · rw [if_pos (show nI g = (5 : Int32) by rw [g5]; rfl), if_pos (show nI g = (5 : Int32) by rw [g5]; rfl), b2, if_neg g8, ch, b3]
    exact ⟨_, rfl, rfl⟩
  rw [if_neg (show ¬ nI g = (5 : Int32) from ne 5 (by omega) g5), if_neg (show ¬ nI g = (5 : Int32) from ne 5 (by omega) g5)]
  by_cases g6 : g = 6
  · rw [if_pos (show nI g = (6 : Int32) by rw [g6]; rfl), if_pos (show nI g = (6 : Int32) by rw [g6]; rfl), if_neg (a28 1 (by omega)), c28 1 (by omega), h28 1 (by omega)]
    exact ⟨_, rfl, by rw [show X2_get (am_sub P 1) (nI h) 1 = P 2 (13 * h + 1) from gt 1 (by omega), if_pos (show 1 < 6 by omega)]⟩
  rw [if_neg (show ¬ nI g = (6 : Int32) from ne 6 (by omega) g6), if_neg (show ¬ nI g = (6 : Int32) from ne 6 (by omega) g6)]
  obtain ⟨e, rfl⟩ : ∃ e, g = 8 + e := ⟨g - 8, by omega⟩
  have s1 : (2 : Int32) + nI (8 + e) - 8 = nI (2 + e) := by
    rw [show (2 : Int32) + nI (8 + e) = nI (2 + (8 + e)) from nI_add 2 _, show 2 + (8 + e) = 8 + (2 + e) by omega]
    exact nI_asub 8 _
  have s2 : nI (8 * h + 2) + nI (8 + e) - 8 = nI (8 * h + (2 + e)) := by
    rw [nI_add, show 8 * h + 2 + (8 + e) = 8 + (8 * h + (2 + e)) by omega]
    exact nI_asub 8 _
  rw [s1, s2, gt (2 + e) (by omega), if_neg (a28 (2 + e) (by omega)), c28 (2 + e) (by omega), h28 (2 + e) (by omega), if_pos (show 2 + e < 6 by omega)]
  exact ⟨_, rfl, rfl⟩
theorem case15 (hL : k + 5 < L) (hL2 : L ≤ 3072) (hk : KT n c kont (nI k)) (h : hRel n c χ σ τ ρ) : L_c15 n L xs kont χ σ τ o ρ (nI k) = some true := by
  have hr0 := hRel_ref (rSame_2 (a := 0) (hRel_now h)) h
  have hr1 := hRel_ref (rSame_2 (a := 1) (hRel_now h)) h
  obtain ⟨F, H, N, m, x, y, v, tv, kd, nx, ot, G, D, h1, -, -, -, h5, -⟩ := h
  have h2 := hS_2 (a := 0) h1
  have m8 : m ≤ 8 := h1.2.2.2.2.2.2.2.1
  unfold L_c15
  rw [nI_1, show nI k + 2 = nI (k + 2) from nI_add k 2, if_neg (pu_g (n := L) (by omega) (by omega)), if_neg (pu_g (n := L) (by omega) (by omega))]
  generalize xs (nI (k + 1)).toNatClampNeg = a1
  generalize xs (nI (k + 2)).toNatClampNeg = a2
  refine ans2 hk ?_
  have fl : X8_of_J41 (sC ρ 0 (am_u (ρ 0) 2 0)) = some ((0 : Int32), sC ρ 0 (am_u (ρ 0) 2 1)) := by
    unfold X8_of_J41 X8_fail
    dsimp only [Option.bind]
    rw [code_21]
  have bad : X7_of n σ χ a1 a2 = some none → X8_of ρ a1 a2 = X8_of_J41 (sC ρ 0 (am_u (ρ 0) 2 0)) → ∃ r b ρ', X7_of n σ χ a1 a2 = some r ∧ X8_of ρ a1 a2 = some (b, ρ') ∧ hRel n (c + 1) χ σ τ ρ' ∧ ((∃ v, r = some v ∧ ρ' 0 2 = 0 ∧ b = v) ∨ (r = none ∧ ρ' 0 2 = 1)) := fun z1 z2 => ⟨_, _, _, z1, z2.trans fl, hr1, Or.inr ⟨rfl, rfl⟩⟩
  rcases pl_at h5 with ⟨p1, p2⟩ | ⟨p1, p2, p3, p4⟩
  · refine bad ?_ ?_
    · unfold X7_of X7_of_J31
      rw [if_pos p1]
    · unfold X8_of X8_of_J34
      rw [p2, if_neg Bool.false_ne_true]
      split
      · split
        · rfl
        · split <;> rfl
      · rfl
  · have p9 : ¬ σ 0 9 = 0 := by rw [p1]; decide
    rcases hand_at h2 a1 with ⟨g, g1, rfl, g3, g4⟩ | ⟨g3, g4⟩
    · by_cases w1 : a2 < 0
      · refine bad ?_ ?_
        · unfold X7_of X7_of_J31
          rw [if_neg p9, g3, if_neg Bool.false_ne_true, if_pos w1]
        · unfold X8_of
          rw [g4, if_pos rfl, isIn_eq, isIn_eq, if_neg (by rw [decide_eq_true_eq]; exact fun q => Int32.not_le.mpr w1 q.1), if_neg (by rw [decide_eq_true_eq]; exact fun q => Int32.not_le.mpr w1 (Int32.le_trans (by decide) q.1))]
      · obtain ⟨e, he, rfl⟩ := nI_of w1
        have i2 : X8_isIn (nI e) 0 6 = decide (e ≤ 6) := by
          rw [isIn_eq]
          exact decide_eq_decide.mpr ⟨fun q => (nI_leI (b := 6) he (by omega)).mp q.2, fun q => ⟨Int32.not_lt.mp w1, (nI_leI (b := 6) he (by omega)).mpr q⟩⟩
        have i3 : X8_isIn (nI e) 8 11 = decide (8 ≤ e ∧ e ≤ 11) := by
          rw [isIn_eq]
          exact decide_eq_decide.mpr ⟨fun q => ⟨(nI_leI (a := 8) (by omega) he).mp q.1, (nI_leI (b := 11) he (by omega)).mp q.2⟩, fun q => ⟨(nI_leI (a := 8) (by omega) he).mpr q.1, (nI_leI (b := 11) he (by omega)).mpr q.2⟩⟩
        by_cases e7 : e = 7
        · refine bad ?_ ?_
          · unfold X7_of X7_of_J31
            rw [if_neg p9, g3, if_neg Bool.false_ne_true, if_neg w1, if_pos (by rw [e7]; rfl)]
          · unfold X8_of
            rw [g4, if_pos rfl, i2, i3, if_neg (by rw [decide_eq_true_eq]; omega), if_neg (by rw [decide_eq_true_eq]; omega)]
        · have n7 : ¬ nI e = (7 : Int32) := fun q => e7 ((nI_eq (b := 7) he (by omega)).mp q)
          by_cases e11 : e ≤ 11
          · obtain ⟨v, v1, v2⟩ := of_val m8 g1 p4 p2 e e11 e7
            refine ⟨some v, v, _, ?_, ?_, hr0, Or.inl ⟨_, rfl, rfl, rfl⟩⟩
            · unfold X7_of
              rw [if_neg p9, g3, if_neg Bool.false_ne_true, if_neg w1, if_neg n7, if_pos (show nI e ≤ 11 from (nI_leI (b := 11) he (by omega)).mpr e11), if_neg (fun q => q p3), v1]
              rfl
            · unfold X8_of
              rw [g4, if_pos rfl, i2, i3]
              by_cases e6 : e ≤ 6
              · rw [if_pos (decide_eq_true e6), v2]
              · rw [if_neg (by rw [decide_eq_true_eq]; exact e6), if_pos (decide_eq_true (by omega)), v2]
          · refine bad ?_ ?_
            · unfold X7_of X7_of_J31
              rw [if_neg p9, g3, if_neg Bool.false_ne_true, if_neg w1, if_neg n7, if_neg (show ¬ nI e ≤ 11 from fun q => e11 ((nI_leI (b := 11) he (by omega)).mp q))]
            · unfold X8_of
              rw [g4, if_pos rfl, i2, i3, if_neg (by rw [decide_eq_true_eq]; omega), if_neg (by rw [decide_eq_true_eq]; omega)]
    · refine bad ?_ ?_
      · unfold X7_of X7_of_J31
        rw [if_neg p9, g3, if_pos rfl]
      · unfold X8_of
        rw [g4, if_neg Bool.false_ne_true]
end TOLD
