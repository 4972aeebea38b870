/-! THE LAW'S CASES: those that need no search -/
theorem isIn_eq (a b c : Int32) : X8_isIn a b c = decide (b ≤ a ∧ a ≤ c) := by
  unfold X8_isIn
  by_cases h1 : a < b
  · rw [if_pos h1, decide_eq_false (fun q => Int32.not_le.mpr h1 q.1)]
  · rw [if_neg h1]
    by_cases h2 : c < a
    · rw [if_pos h2, decide_eq_false (fun q => Int32.not_le.mpr h2 q.2)]
    · rw [if_neg h2, decide_eq_true ⟨Int32.not_lt.mp h1, Int32.not_lt.mp h2⟩]
theorem hO_0 {α : Type} {f : α → Int32} {o : Nat → Int64} {v : α} : hO f o (some v) (0 : Int32).toNatClampNeg = (f v).toInt64 := by
  show vp_updL o (0 : Int32).toNatClampNeg (f v).toInt64 (0 : Int32).toNatClampNeg = _
  unfold vp_updL
  rw [if_pos rfl]
theorem hR_s {α : Type} {v : α} : hR (some v) = 0 := rfl
theorem hR_n {α : Type} : hR (none : Option α) = 1 := rfl
/-- the loop behind a call -/
def KT (n c : Nat) (kont : (Nat → Nat) → am_M → (Nat → Int64) → (Nat → Int64) → am_M → Int32 → Option Bool) (i : Int32) : Prop := ∀ χ σ τ o ρ, hRel n (c + 1) χ σ τ ρ → kont χ σ τ o ρ (i + 6) = some true
section CASES
variable {n c L : Nat} {xs : Nat → Int32} {kont : (Nat → Nat) → am_M → (Nat → Int64) → (Nat → Int64) → am_M → Int32 → Option Bool} {χ : Nat → Nat} {σ : am_M} {τ o : Nat → Int64} {ρ : am_M} {k : Nat}
/-- what a call that throws or answers leads to -/
theorem thr_end {α : Type} {q : Option Int32} {b : Int32} {ρ' : am_M} {χ' : Nat → Nat} {σ' : am_M} {τ' : Nat → Int64} {i : Int32} (hk : KT n c kont i) (hrel : hRel n (c + 1) χ' σ' τ' ρ') (h : (∃ v, q = some v ∧ ρ' 0 2 = 0 ∧ b = v) ∨ (q = none ∧ ρ' 0 2 = 1)) : (if (X8_thrown ρ') = (hR q) then (if (hR q) = 0 then (if (lg_cmp ((hO id o q) (0 : Int32).toNatClampNeg) b.toInt64) = 0 then (kont χ' σ' τ' (hO id o q) ρ' (i + 6)) else (some false)) else (kont χ' σ' τ' (hO id o q) ρ' (i + 6))) else (some false)) = some true := by
  unfold X8_thrown
  rcases h with ⟨v, rfl, h2, rfl⟩ | ⟨rfl, h2⟩
  · rw [if_pos (by rw [h2]; rfl), if_pos hR_s, if_pos (by rw [hO_0]; exact lgz.mpr rfl)]
    exact hk _ _ _ _ _ hrel
  · rw [if_pos (by rw [h2]; rfl), if_neg (by rw [hR_n]; decide)]
    exact hk _ _ _ _ _ hrel
theorem hRel_now (h : hRel n c χ σ τ ρ) : ∃ M', M' ≤ 320 ∧ ρ 15 64 = nI M' := by
  obtain ⟨F, H, N, m, x, y, v, tv, kd, nx, ot, G, D, h1, -⟩ := h
  exact h1.2.2.2.2.2.2.2.2.2.2.2.2.2.2.2.2.2.2.2.2.2
theorem case2 (hk : KT n c kont (nI k)) (h : hRel n c χ σ τ ρ) : L_c2 n L xs kont χ σ τ o ρ (nI k) = some true := by
  have h20 : σ 1 3 = ρ 0 20 := by
    obtain ⟨F, H, N, m, x, y, v, tv, kd, nx, ot, G, D, h1, -⟩ := h
    exact h1.2.2.2.2.2.2.2.2.2.2.2.2.2.2.2.2.2.2.2.1
  unfold L_c2 X8_fault X7_fault
  dsimp only [Option.bind]
  rw [if_pos h20]
  exact hk _ _ _ _ _ (hRel_ref (rSame_2 (hRel_now h)) h)
/-- the script's head at the boundary -/
theorem scr_at {F H : am_M} {N m x y : Nat} {kd nx ot : Nat → Nat} {G : Nat → Nat → List Int32} {D : Nat → Int32 → Int64 → VT} (h : hS n F H σ ρ N m x y kd nx ot G D) : N ≤ 40 ∧ σ 18 7 = nI N ∧ ρ 4 0 = nI N ∧ ∀ s, s < N → kd s ≤ 10 ∧ σ 19 s = nI (kd s) ∧ ρ 6 s = nI (kd s) := by
  obtain ⟨⟨g1, g2, g3, g4⟩, -, hP, hH, -⟩ := h
  have e12 : σ 18 = F 12 := by
    have := hP 12 (by omega) (by omega)
    rw [sg_app, if_neg (by omega), if_pos (by omega)] at this
    exact this
  have e13 : σ 19 = F 13 := by
    have := hP 13 (by omega) (by omega)
    rw [sg_app, if_neg (by omega), if_pos (by omega)] at this
    exact this
  refine ⟨g1, by rw [e12]; exact g2, by rw [hH 4 (by omega) (by omega)]; exact g3, fun s hs => ?_⟩
  obtain ⟨⟨k1, k2, k3⟩, -⟩ := g4 s hs
  exact ⟨k1, by rw [e13]; exact k2, by rw [hH 6 (by omega) (by omega)]; exact k3⟩
theorem any_loop {N : Nat} {kd : Nat → Nat} (hN : N ≤ 40) (h4 : ρ 4 0 = nI N) (h6 : ∀ s, s < N → kd s ≤ 10 ∧ ρ 6 s = nI (kd s)) : ∀ (d s K : Nat), s + d = N → d < K → X8_anySteps_L4 n ρ K (nI (anyN kd s)) (nI s) = some (nI (anyN kd N)) := by
  intro d
  induction d with
  | zero =>
    intro s K hs hK
    obtain ⟨K, rfl⟩ : ∃ J, K = J + 1 := ⟨K - 1, by omega⟩
    have e : s = N := by omega
    simp only [X8_anySteps_L4, X8_anySteps_B4]
    rw [show ρ 4 (0 : Int32).toNatClampNeg = nI N from h4, e, if_pos (Int32.le_refl _)]
  | succ d ih =>
    intro s K hs hK
    obtain ⟨K, rfl⟩ : ∃ J, K = J + 1 := ⟨K - 1, by omega⟩
    obtain ⟨k1, k2⟩ := h6 s (by omega)
    have I := ih (s + 1) K (by omega) (by omega)
    simp only [X8_anySteps_L4, X8_anySteps_B4, X8_anySteps_J30]
    rw [show ρ 4 (0 : Int32).toNatClampNeg = nI N from h4, if_neg (by rw [pu_le (by omega) (by omega)]; omega), if_neg (pu_g (n := 80) (by omega) (by omega)), nI_clamp (by omega), k2, Int32.add_zero, nI_1, nI_1]
    simp only [anyN] at I
    by_cases q : kd s = 4
    · rw [if_pos (show nI (kd s) = 4 by rw [q]; rfl)]
      rw [if_pos q] at I
      exact I
    · rw [if_neg (show ¬ nI (kd s) = 4 from fun z => q ((nI_eq (b := 4) (by omega) (by omega)).mp z))]
      rw [if_neg q] at I
      exact I
theorem any_eq (hn : 2200 < n) {N : Nat} {kd : Nat → Nat} (hN : N ≤ 40) (h4 : ρ 4 0 = nI N) (h6 : ∀ s, s < N → kd s ≤ 10 ∧ ρ 6 s = nI (kd s)) : X8_anySteps n ρ = some (nI (anyN kd N)) := by
  have := any_loop (n := n) hN h4 h6 N 0 n (by omega) (by omega)
  rw [nI_0] at this
  exact this
theorem case4 (hn : 2200 < n) (hL : k + 5 < L) (hL2 : L ≤ 3072) (hk : KT n c kont (nI k)) (h : hRel n c χ σ τ ρ) : L_c4 n L xs kont χ σ τ o ρ (nI k) = some true := by
  have hr0 := hRel_ref (rSame_2 (a := 0) (hRel_now h)) h
  have hr1 := hRel_ref (rSame_2 (a := 1) (hRel_now h)) h
  obtain ⟨F, H, N, m, x, y, v, tv, kd, nx, ot, G, D, h1, -⟩ := h
  obtain ⟨s1, s2, s3, s4⟩ := scr_at h1
  obtain ⟨-, -, -, -, a5, -, -, -, a9, a10, a11, -, -, -, a15, a16, a17, a18, ⟨f, f1, f2, f3, f4⟩, -⟩ := h1
  have ha := any_eq (n := n) (ρ := sC ρ 0 (am_u (ρ 0) 2 0)) hn s1 s3 (fun s hs => ⟨(s4 s hs).1, (s4 s hs).2.2⟩)
  unfold L_c4
  rw [nI_1, if_neg (pu_g (n := L) (by omega) (by omega))]
  obtain ⟨a, ea⟩ : ∃ a, a = xs (nI (k + 1)).toNatClampNeg := ⟨_, rfl⟩
  rw [← ea]
  unfold X7_count X8_count
  by_cases c0 : a = 0
  · rw [if_pos c0, if_pos c0]
    exact thr_end (α := Int32) hk hr0 (Or.inl ⟨_, rfl, rfl, s3.trans s2.symm⟩)
  · rw [if_neg c0, if_neg c0]
    by_cases c1 : a = 1
    · rw [if_pos c1, if_pos c1, ha]
      exact thr_end (α := Int32) hk hr0 (Or.inl ⟨_, rfl, rfl, a5.symm⟩)
    · rw [if_neg c1, if_neg c1]
      by_cases c2 : a = 2
      · rw [if_pos c2, if_pos c2]
        exact thr_end (α := Int32) hk hr0 (Or.inl ⟨_, rfl, rfl, a10.trans a9.symm⟩)
      · rw [if_neg c2, if_neg c2]
        by_cases c3 : a = 3
        · rw [if_pos c3, if_pos c3]
          exact thr_end (α := Int32) hk hr0 (Or.inl ⟨_, rfl, rfl, a11.symm⟩)
        · rw [if_neg c3, if_neg c3]
          by_cases c4 : a = 4
          · rw [if_pos c4, if_pos c4]
            exact thr_end (α := Int32) hk hr0 (Or.inl ⟨_, rfl, rfl, a16.trans a15.symm⟩)
          · rw [if_neg c4, if_neg c4]
            by_cases c5 : a = 5
            · rw [if_pos c5, if_pos c5]
              exact thr_end (α := Int32) hk hr0 (Or.inl ⟨_, rfl, rfl, a18.trans a17.symm⟩)
            · rw [if_neg c5, if_neg c5]
              by_cases c6 : a = 6
              · rw [if_pos c6, if_pos c6]
                exact thr_end (α := Int32) hk hr0 (Or.inl ⟨_, rfl, rfl, f3.trans f2.symm⟩)
              · rw [if_neg c6, if_neg c6]
                have e1 : (sC (sC ρ 0 (am_u (ρ 0) 2 0)) 0 (am_u ((sC ρ 0 (am_u (ρ 0) 2 0)) 0) 2 1)) = sC ρ 0 (am_u (ρ 0) 2 1) := by
                  rw [sC_sC]
                  congr 1
                  funext j
                  by_cases q : j = 2
                  · rw [q]
                  · rw [am_u_ne q, am_u_ne q]
                    exact am_u_ne q
                unfold X8_fail
                dsimp only [Option.bind]
                rw [e1]
                exact thr_end (α := Int32) hk hr1 (Or.inr ⟨rfl, rfl⟩)
/-- a STEP's kind, or none, in both -/
theorem kind_at {F H : am_M} {N m x y : Nat} {kd nx ot : Nat → Nat} {G : Nat → Nat → List Int32} {D : Nat → Int32 → Int64 → VT} (h : hS n F H σ ρ N m x y kd nx ot G D) (a : Int32) : (∃ s, s < N ∧ a = nI s ∧ X3_kindOf (am_sub σ 18) a = nI (kd s) ∧ X8_isStep ρ a = true) ∨ (X3_kindOf (am_sub σ 18) a = -1 ∧ X8_isStep ρ a = false) := by
  obtain ⟨s1, s2, s3, s4⟩ := scr_at h
  have eS : X8_isStep ρ a = decide (0 ≤ a ∧ a ≤ nI N - 1) := by
    unfold X8_isStep
    rw [show ρ 4 (0 : Int32).toNatClampNeg = nI N from s3, isIn_eq]
  have eK : X3_kindOf (am_sub σ 18) a = if a < 0 then -1 else if nI N ≤ a then -1 else jat 40 (σ 19) a := by
    unfold X3_kindOf
    rw [show (am_sub σ 18) 0 7 = nI N from s2]
  by_cases h0 : a < 0
  · exact Or.inr ⟨by rw [eK, if_pos h0], by rw [eS]; exact decide_eq_false (fun q => Int32.not_le.mpr h0 q.1)⟩
  · obtain ⟨j, hj, rfl⟩ := nI_of h0
    by_cases hjN : j < N
    · refine Or.inl ⟨j, hjN, rfl, ?_, ?_⟩
      · rw [eK, if_neg h0, if_neg (by rw [pu_le (by omega) (by omega)]; omega), jat_nI (by omega) (by omega), (s4 j hjN).2.1]
      · obtain ⟨N', rfl⟩ : ∃ N', N = N' + 1 := ⟨N - 1, by omega⟩
        rw [eS, nI_pred]
        exact decide_eq_true ⟨Int32.not_lt.mp h0, (nI_leI (by omega) (by omega)).mpr (by omega)⟩
    · refine Or.inr ⟨by rw [eK, if_neg h0, if_pos ((nI_leI (by omega) hj).mpr (by omega))], ?_⟩
      rw [eS]
      refine decide_eq_false (fun q => ?_)
      by_cases z : N = 0
      · subst z
        have := q.2
        rw [show nI 0 - 1 = (-1 : Int32) by decide] at this
        exact absurd (Int32.le_trans q.1 this) (by decide)
      · obtain ⟨N', rfl⟩ : ∃ N', N = N' + 1 := ⟨N - 1, by omega⟩
        have := q.2
        rw [nI_pred] at this
        have := (nI_leI hj (by omega)).mp this
        omega
theorem code_21 {ρ : am_M} {a b : Int32} : sC (sC ρ 0 (am_u (ρ 0) 2 a)) 0 (am_u ((sC ρ 0 (am_u (ρ 0) 2 a)) 0) 2 b) = sC ρ 0 (am_u (ρ 0) 2 b) := by
  rw [sC_sC]
  congr 1
  funext j
  by_cases q : j = 2
  · rw [q]
  · rw [am_u_ne q, am_u_ne q]
    exact am_u_ne q
theorem hS_2 {F H : am_M} {N m x y : Nat} {kd nx ot : Nat → Nat} {G : Nat → Nat → List Int32} {D : Nat → Int32 → Int64 → VT} {a : Int32} (h : hS n F H σ ρ N m x y kd nx ot G D) : hS n F H σ (sC ρ 0 (am_u (ρ 0) 2 a)) N m x y kd nx ot G D := hS_same (fun _ _ => rfl) (fun _ _ _ => rfl) (rSm_of (rSame_2 h.2.2.2.2.2.2.2.2.2.2.2.2.2.2.2.2.2.2.2.2.2)) h
theorem case5 (hL : k + 5 < L) (hL2 : L ≤ 3072) (hk : KT n c kont (nI k)) (h : hRel n c χ σ τ ρ) : L_c5 n L xs kont χ σ τ o ρ (nI k) = some true := by
  have hr0 := hRel_ref (rSame_2 (a := 0) (hRel_now h)) h
  have hr1 := hRel_ref (rSame_2 (a := 1) (hRel_now h)) h
  obtain ⟨F, H, N, m, x, y, v, tv, kd, nx, ot, G, D, h1, -⟩ := h
  have h2 := hS_2 (a := 0) h1
  obtain ⟨s1, s2, s3, s4⟩ := scr_at h1
  unfold L_c5
  rw [nI_1, if_neg (pu_g (n := L) (by omega) (by omega))]
  obtain ⟨a, ea⟩ : ∃ a, a = xs (nI (k + 1)).toNatClampNeg := ⟨_, rfl⟩
  rw [← ea]
  unfold X7_step X8_step
  rcases kind_at h2 a with ⟨s, q1, q2, q3, q4⟩ | ⟨q3, q4⟩
  · have := (s4 s q1).1
    rw [q3, q4, if_neg (pu_ne1 (by omega)), if_pos rfl, q2, if_neg (pu_g (n := 80) (by omega) (by omega)), nI_clamp (by omega)]
    exact thr_end (α := Int32) hk hr0 (Or.inl ⟨_, rfl, rfl, (s4 s q1).2.2⟩)
  · rw [q3, q4, if_pos rfl, if_neg (by decide)]
    unfold X8_fail
    dsimp only [Option.bind]
    rw [code_21]
    exact thr_end (α := Int32) hk hr1 (Or.inr ⟨rfl, rfl⟩)
end CASES
