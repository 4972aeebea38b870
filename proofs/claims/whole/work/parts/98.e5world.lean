/-! THE LAW'S CASES: a WORLD is set; an ending, what could be taken, what is left are told -/
theorem nI_asb (a b : Nat) : nI (a + b) - nI a = nI b := nI_asub a b
theorem sg_eq0 {f g : am_M} {o : Nat} (ho : 1 ≤ o) (s : ∀ k, k ≠ 0 → f k = g k) : am_sg f o = am_sg g o := by
  funext k
  rw [sg_app, sg_app]
  by_cases h1 : k < 12
  · rw [if_pos h1, if_pos h1, s _ (by omega)]
  · rw [if_neg h1, if_neg h1]
    by_cases h2 : k < 20
    · rw [if_pos h2, if_pos h2, s _ (by omega)]
    · rw [if_neg h2, if_neg h2, s _ (by omega)]
/-- one of N, or none -/
theorem in_pred {a : Int32} {N : Nat} (hN : N < 2147483648) : (∃ j, j < N ∧ a = nI j ∧ X8_isIn a 0 (nI N - 1) = true ∧ ¬ a < 0 ∧ a < nI N) ∨ (X8_isIn a 0 (nI N - 1) = false ∧ (a < 0 ∨ (¬ a < 0 ∧ ¬ a < nI N))) := by
  rw [isIn_eq]
  by_cases h0 : a < 0
  · exact Or.inr ⟨decide_eq_false (fun q => Int32.not_le.mpr h0 q.1), Or.inl h0⟩
  · obtain ⟨j, hj, rfl⟩ := nI_of h0
    by_cases hjN : j < N
    · obtain ⟨N', rfl⟩ : ∃ N', N = N' + 1 := ⟨N - 1, by omega⟩
      refine Or.inl ⟨j, hjN, rfl, ?_, h0, ?_⟩
      · rw [nI_pred]
        exact decide_eq_true ⟨Int32.not_lt.mp h0, (nI_leI (by omega) (by omega)).mpr (by omega)⟩
      · exact Int32.not_le.mp (fun q => by have := (nI_leI hN hj).mp q; omega)
    · refine Or.inr ⟨decide_eq_false (fun q => ?_), Or.inr ⟨h0, Int32.not_lt.mpr ((nI_leI hN hj).mpr (by omega))⟩⟩
      by_cases z : N = 0
      · rw [z] at q
        have := q.2
        rw [show nI 0 - 1 = (-1 : Int32) by decide] at this
        exact absurd (Int32.le_trans q.1 this) (by decide)
      · obtain ⟨N', rfl⟩ : ∃ N', N = N' + 1 := ⟨N - 1, by omega⟩
        have := q.2
        rw [nI_pred] at this
        have := (nI_leI hj (by omega)).mp this
        omega
section WORLD
variable {n c L : Nat} {xs : Nat → Int32} {kont : (Nat → Nat) → am_M → (Nat → Int64) → (Nat → Int64) → am_M → Int32 → Option Bool} {χ : Nat → Nat} {σ : am_M} {τ o : Nat → Int64} {ρ : am_M} {k : Nat}
theorem hRel_ch (h : hRel n c χ σ τ ρ) : am_chib χ = true := by
  obtain ⟨F, H, N, m, x, y, v, tv, kd, nx, ot, G, D, -, -, -, -, -, h6⟩ := h
  exact hCh_b h6
theorem hRel_W (hc : c ≤ 600) (h : hRel n c χ σ τ ρ) {σ' ρ' : am_M} {m' r x' y' : Nat} (b1 : 2 ≤ m') (b2 : m' ≤ 8) (b3 : r ≤ 3) (b4 : x' ≤ 99) (b5 : y' ≤ 99) (s : ∀ k, k ≠ 0 → σ' k = σ k) (s2 : σ' 0 2 = nI m') (s3 : σ' 0 3 = nI r) (s4 : σ' 0 4 = nI x') (s5 : σ' 0 5 = nI y') (s10 : σ' 0 10 = σ 0 10) (t : ∀ k, k ≠ 0 → ρ' k = ρ k) (t3 : ρ' 0 3 = nI m') (t4 : ρ' 0 4 = nI r) (t5 : ρ' 0 5 = nI x') (t6 : ρ' 0 6 = nI y') (t7 : ρ' 0 7 = ρ 0 7 + 1) (t0 : ∀ k, 8 ≤ k → k ≠ 57 → ρ' 0 k = ρ 0 k) (hor : (σ' 0 9 = σ 0 9 ∧ ρ' 0 57 = ρ 0 57 ∧ nI m' = ρ 0 3) ∨ (σ' 0 9 = 0 ∧ ρ' 0 57 = -1)) : hRel n (c + 1) χ σ' τ ρ' := by
  obtain ⟨F, H, N, m, x, y, v, tv, kd, nx, ot, G, D, h1, h2, h3, h4, h5, h6⟩ := h
  obtain ⟨a1, a2, a3, a4, a5, a6, a7, a8, a9, a10, a11, a12, a13, a14, a15, a16, a17, a18, ⟨f, f1, f2, f3, f4⟩, a20, a21, a22⟩ := h1
  refine ⟨F, H, N, m', x', y', v + 1, tv, kd, nx, ot, G, D, ⟨a1, a2, ?_, ?_, by rw [s 18 (by omega)]; exact a5, by rw [t 14 (by omega)]; exact a6, b1, b2, s2, t3, by rw [s3, t4], ⟨r, b3, t4⟩, b4, b5, s4, t5, s5, t6, ⟨f, f1, by rw [s 2 (by omega)]; exact f2, by rw [t0 10 (by omega) (by omega)]; exact f3, by rw [s 3 (by omega), t 3 (by omega)]; exact f4⟩, by rw [s 1 (by omega), t0 20 (by omega) (by omega)]; exact a20, by rw [t0 35 (by omega) (by omega)]; exact a21, by rw [t 15 (by omega)]; exact a22⟩, ?_, ?_, ?_, ?_, h6⟩
  · rw [sg_eq0 (by omega) s]; exact a3
  · intro c' q1 q2
    rw [t c' (by omega)]
    exact a4 c' q1 q2
  · unfold hRd at h2 ⊢
    rw [s 26 (by omega), sg_eq0 (by omega) s]
    exact h2
  · obtain ⟨d1, d2, d3, d4, d5, d6⟩ := h3
    have e7 : ρ' 0 7 = nI (v + 1) := by rw [t7, d2, nI_1]
    refine ⟨by omega, e7, by omega, by rw [t0 8 (by omega) (by omega)]; exact d4, ?_, fun q => ?_⟩
    · rw [t0 47 (by omega) (by omega)]
      rcases d5 with q | ⟨j, k1, k2⟩
      · exact Or.inl q
      · exact Or.inr ⟨j, by omega, k2⟩
    · rw [t0 47 (by omega) (by omega), e7] at q
      rcases d5 with z | ⟨j, k1, k2⟩
      · rw [z] at q
        exact absurd q.symm (pu_ne1 (by omega))
      · rw [k2] at q
        have := (nI_eq (by omega) (by omega)).mp q
        omega
  · unfold hLf at h4 ⊢
    rw [s10, t0 56 (by omega) (by omega), t0 8 (by omega) (by omega), t 27 (by omega)]
    exact h4
  · obtain ⟨⟨j, k1, k2⟩, h5⟩ := h5
    refine ⟨⟨j, k1, by rw [t0 58 (by omega) (by omega)]; exact k2⟩, ?_⟩
    rcases hor with ⟨p1, p2, p3⟩ | ⟨p1, p2⟩
    · have em : m' = m := by
        rw [a10] at p3
        exact (nI_eq (by omega) (by omega)).mp p3
      rw [p1, p2, t3, p3, t0 58 (by omega) (by omega), t0 8 (by omega) (by omega), sg_eq0 (o := 46) (by omega) s, em]
      rcases h5 with q | ⟨q1, q2, q3, q4, q5⟩
      · exact Or.inl q
      · exact Or.inr ⟨q1, q2, q3, q4, plI_congr (t 28 (by omega)) (t 30 (by omega)) (t 31 (by omega)) (t 33 (by omega)) (t 34 (by omega)) (t 35 (by omega)) (t0 60 (by omega) (by omega)) (t0 68 (by omega) (by omega)) q5⟩
    · exact Or.inl ⟨p1, fun q => by
        rw [p2, t3] at q
        exact pu_ne1 (by omega) q.1.symm⟩
theorem case3 (hc : c ≤ 600) (hL : k + 5 < L) (hL2 : L ≤ 3072) (hk : KT n c kont (nI k)) (h : hRel n c χ σ τ ρ) : L_c3 n L xs kont χ σ τ o ρ (nI k) = some true := by
  have hr0 := hRel_ref (rSame_2 (a := 0) (hRel_now h)) h
  have hch := hRel_ch h
  unfold L_c3
  rw [nI_1, show nI k + 2 = nI (k + 2) from nI_add k 2, show nI k + 3 = nI (k + 3) from nI_add k 3, show nI k + 4 = nI (k + 4) from nI_add k 4, if_neg (pu_g (n := L) (by omega) (by omega)), if_neg (pu_g (n := L) (by omega) (by omega)), if_neg (pu_g (n := L) (by omega) (by omega)), if_neg (pu_g (n := L) (by omega) (by omega))]
  generalize xs (nI (k + 1)).toNatClampNeg = a1
  generalize xs (nI (k + 2)).toNatClampNeg = a2
  generalize xs (nI (k + 3)).toNatClampNeg = a3
  generalize xs (nI (k + 4)).toNatClampNeg = a4
  have key : (X7_world σ τ χ a1 a2 a3 a4 = some (false, σ, τ, χ) ∧ X8_world ρ a1 a2 a3 a4 = some (false, sC ρ 0 (am_u (ρ 0) 2 0))) ∨ ∃ σ' ρ', X7_world σ τ χ a1 a2 a3 a4 = some (true, σ', τ, χ) ∧ X8_world ρ a1 a2 a3 a4 = some (true, ρ') ∧ hRel n (c + 1) χ σ' τ ρ' := by
    have h03 : ∃ m, ρ 0 3 = nI m ∧ σ 0 2 = nI m := by
      obtain ⟨F, H, N, m, x, y, v, tv, kd, nx, ot, G, D, h1, -⟩ := h
      exact ⟨m, h1.2.2.2.2.2.2.2.2.2.1, h1.2.2.2.2.2.2.2.2.1⟩
    obtain ⟨m, hm3, hm2⟩ := h03
    unfold X7_world X8_world X7_isNoRoom
    simp only [isIn_eq, decide_eq_true_eq]
    by_cases w1 : a1 < 2
    · rw [if_pos w1, if_neg (show ¬ (2 ≤ a1 ∧ a1 ≤ 8) from fun q => Int32.not_le.mpr w1 q.1)]
      exact Or.inl ⟨rfl, rfl⟩
    · rw [if_neg w1]
      by_cases w2 : 8 < a1
      · rw [if_pos w2, if_neg (show ¬ (2 ≤ a1 ∧ a1 ≤ 8) from fun q => Int32.not_le.mpr w2 q.2)]
        exact Or.inl ⟨rfl, rfl⟩
      · rw [if_neg w2, if_pos (show (2 ≤ a1 ∧ a1 ≤ 8) from ⟨Int32.not_lt.mp w1, Int32.not_lt.mp w2⟩)]
        by_cases w3 : a2 < 0
        · rw [if_pos w3, if_pos rfl, if_neg (show ¬ (0 ≤ a2 ∧ a2 ≤ 3) from fun q => Int32.not_le.mpr w3 q.1)]
          exact Or.inl ⟨rfl, rfl⟩
        · rw [if_neg w3]
          by_cases w4 : a2 ≤ 3
          · rw [if_pos w4, if_neg (show ¬ (false = true) from Bool.false_ne_true), if_pos (show (0 ≤ a2 ∧ a2 ≤ 3) from ⟨Int32.not_lt.mp w3, w4⟩)]
            by_cases w5 : a3 < 0
            · rw [if_pos w5, if_neg (show ¬ (0 ≤ a3 ∧ a3 ≤ 99) from fun q => Int32.not_le.mpr w5 q.1)]
              exact Or.inl ⟨rfl, rfl⟩
            · rw [if_neg w5]
              by_cases w6 : 99 < a3
              · rw [if_pos w6, if_neg (show ¬ (0 ≤ a3 ∧ a3 ≤ 99) from fun q => Int32.not_le.mpr w6 q.2)]
                exact Or.inl ⟨rfl, rfl⟩
              · rw [if_neg w6, if_pos (show (0 ≤ a3 ∧ a3 ≤ 99) from ⟨Int32.not_lt.mp w5, Int32.not_lt.mp w6⟩)]
                by_cases w7 : a4 < 0
                · rw [if_pos w7, if_neg (show ¬ (0 ≤ a4 ∧ a4 ≤ 99) from fun q => Int32.not_le.mpr w7 q.1)]
                  exact Or.inl ⟨rfl, rfl⟩
                · rw [if_neg w7]
                  by_cases w8 : a4 ≤ 99
                  · rw [if_pos w8, if_pos (show (0 ≤ a4 ∧ a4 ≤ 99) from ⟨Int32.not_lt.mp w7, w8⟩)]
                    obtain ⟨m', q1, rfl⟩ := nI_of (x := a1) (fun z => w1 (Int32.lt_of_lt_of_le z (by decide)))
                    obtain ⟨r, q2, rfl⟩ := nI_of w3
                    obtain ⟨x', q3, rfl⟩ := nI_of w5
                    obtain ⟨y', q4, rfl⟩ := nI_of w7
                    have b1 : 2 ≤ m' := (nI_leI (a := 2) (by omega) q1).mp (Int32.not_lt.mp w1)
                    have b2 : m' ≤ 8 := (nI_leI (b := 8) q1 (by omega)).mp (Int32.not_lt.mp w2)
                    have b3 : r ≤ 3 := (nI_leI (b := 3) q2 (by omega)).mp w4
                    have b4 : x' ≤ 99 := (nI_leI (b := 99) q3 (by omega)).mp (Int32.not_lt.mp w6)
                    have b5 : y' ≤ 99 := (nI_leI (b := 99) q4 (by omega)).mp w8
                    rw [hm3, hm2]
                    unfold X7_world_J57 X8_world_J60
                    by_cases w9 : nI m' = nI m
                    · rw [if_pos w9, if_pos w9]
                      exact Or.inr ⟨_, _, rfl, rfl, hRel_W hc h b1 b2 b3 b4 b5 (fun k q => sC_ne q) rfl rfl rfl rfl rfl (fun k q => by rw [sC_ne q, sC_ne q]) rfl rfl rfl rfl rfl (fun k e1 e2 => by
                        show am_u _ 7 _ k = _
                        rw [am_u_ne (by omega), am_u_ne (by omega), am_u_ne (by omega), am_u_ne (by omega), am_u_ne (by omega)]
                        show am_u (ρ 0) 2 0 k = _
                        rw [am_u_ne (by omega)]) (Or.inl ⟨rfl, rfl, by rw [hm3, w9]⟩)⟩
                    · rw [if_neg w9, if_neg w9]
                      exact Or.inr ⟨_, _, rfl, rfl, hRel_W hc h b1 b2 b3 b4 b5 (fun k q => by rw [sC_ne q, sC_ne q]) rfl rfl rfl rfl rfl (fun k q => by rw [sC_ne q, sC_ne q]) rfl rfl rfl rfl rfl (fun k e1 e2 => by
                        show am_u _ 7 _ k = _
                        rw [am_u_ne (by omega), am_u_ne (by omega), am_u_ne (by omega), am_u_ne (by omega), am_u_ne (by omega)]
                        show am_u _ 57 _ k = _
                        rw [am_u_ne (by omega), am_u_ne (by omega)]) (Or.inr ⟨rfl, rfl⟩)⟩
                  · rw [if_neg w8, if_neg (show ¬ (0 ≤ a4 ∧ a4 ≤ 99) from fun q => w8 q.2)]
                    exact Or.inl ⟨rfl, rfl⟩
          · rw [if_neg w4, if_pos rfl, if_neg (show ¬ (0 ≤ a2 ∧ a2 ≤ 3) from fun q => w4 q.2)]
            exact Or.inl ⟨rfl, rfl⟩
  rcases key with ⟨q1, q2⟩ | ⟨σ', ρ', q1, q2, q3⟩
  · rw [q1, q2]
    dsimp only [Option.bind]
    rw [if_neg (by rw [hch]; decide), if_pos rfl]
    exact hk _ _ _ _ _ hr0
  · rw [q1, q2]
    dsimp only [Option.bind]
    rw [if_neg (by rw [hch]; decide), if_pos rfl]
    exact hk _ _ _ _ _ q3
/-- an answer or a throw of both -/
theorem ans {q : Option (Option Int32 × am_M × (Nat → Int64) × (Nat → Nat))} {w : Option (Int32 × am_M)} (hk : KT n c kont (nI k)) (h : ∃ r χ' σ' τ' b ρ', q = some (r, σ', τ', χ') ∧ w = some (b, ρ') ∧ am_chib χ' = true ∧ hRel n (c + 1) χ' σ' τ' ρ' ∧ ((∃ v, r = some v ∧ ρ' 0 2 = 0 ∧ b = v) ∨ (r = none ∧ ρ' 0 2 = 1))) : q.bind (fun q3 => if ¬ am_chib q3.2.2.2 = true then none else w.bind (fun q5 => if (X8_thrown q5.2) = (hR q3.1) then (if (hR q3.1) = 0 then (if (lg_cmp ((hO id o q3.1) (0 : Int32).toNatClampNeg) q5.1.toInt64) = 0 then (kont q3.2.2.2 q3.2.1 q3.2.2.1 (hO id o q3.1) q5.2 (nI k + 6)) else (some false)) else (kont q3.2.2.2 q3.2.1 q3.2.2.1 (hO id o q3.1) q5.2 (nI k + 6))) else (some false))) = some true := by
  obtain ⟨r, χ', σ', τ', b, ρ', rfl, rfl, h3, h4, h5⟩ := h
  dsimp only [Option.bind]
  rw [if_neg (by rw [h3]; decide)]
  exact thr_end (α := Int32) hk h4 h5
/-- the reference alone tells -/
theorem told_rel (hn : 2200 < n) (h : hRel n c χ σ τ ρ) : ∃ b T, X8_tell n (sC ρ 0 (am_u (ρ 0) 2 0)) = some (b, T) ∧ (∃ M', M' ≤ 320 ∧ T 15 64 = nI M') ∧ ∀ T', rSame T T' → hRel n (c + 1) χ σ τ T' := by
  obtain ⟨F, H, N, m, x, y, v, tv, kd, nx, ot, G, D, h1, h2, h3, h4, h5, h6⟩ := h
  have now := h1.2.2.2.2.2.2.2.2.2.2.2.2.2.2.2.2.2.2.2.2.2
  have h3' : hTd (sC ρ 0 (am_u (ρ 0) 2 0)) m v tv c D := by
    obtain ⟨a1, a2, a3, a4, a5, a6⟩ := h3
    exact ⟨a1, a2, a3, a4, a5, fun q => vT_congr rfl rfl rfl rfl rfl (a6 q)⟩
  obtain ⟨T, t1, t2, t3, t4, t5⟩ := tell_ok hn (hS_2 (a := 0) h1) h3'
  have r2 : rSm ρ (sC ρ 0 (am_u (ρ 0) 2 0)) := rSm_of (rSame_2 now)
  have rT : rSm ρ T := ⟨fun c q1 q2 => (t3.1 c q1 q2).trans (r2.1 c q1 q2), fun k q1 q2 => (t3.2.1 k q1 q2).trans (r2.2.1 k q1 q2), t3.2.2⟩
  refine ⟨_, T, t1, t3.2.2, fun T' hT' => ?_⟩
  have rT' : rSm ρ T' := ⟨fun c q1 q2 => (hT'.1 c q1 (by omega)).trans (rT.1 c q1 q2), fun k q1 q2 => (hT'.2.1 k q1 (by omega)).trans (rT.2.1 k q1 q2), hT'.2.2⟩
  refine ⟨F, H, N, m, x, y, v, tv, kd, nx, ot, G, D, hS_same (fun _ _ => rfl) (fun _ _ _ => rfl) rT' h1, h2, ?_, hLf_same rfl rfl rT' h4, hPl_same rfl rfl rfl rT' h5, h6⟩
  obtain ⟨b1, b2, b3, b4, b5, b6⟩ := t5
  obtain ⟨q1, q2, q3⟩ := hT'
  refine ⟨by omega, by rw [q2 7 (by omega) (by omega)]; exact b2, by omega, by rw [q2 8 (by omega) (by omega)]; exact b4, by rw [q2 47 (by omega) (by omega)]; exact b5, fun z => ?_⟩
  rw [q2 47 (by omega) (by omega), q2 7 (by omega) (by omega)] at z
  rw [q2 4 (by omega) (by omega)]
  exact vT_congr (q1 25 (by omega) (by omega)) (q1 26 (by omega) (by omega)) (q2 51 (by omega) (by omega)) (q2 52 (by omega) (by omega)) (q2 53 (by omega) (by omega)) (b6 z)
/-- a HAND, or none, in both -/
theorem hand_at {F H : am_M} {N m x y : Nat} {kd nx ot : Nat → Nat} {G : Nat → Nat → List Int32} {D : Nat → Int32 → Int64 → VT} (h : hS n F H σ ρ N m x y kd nx ot G D) (a : Int32) : (∃ j, j < m ∧ a = nI j ∧ X7_isNoHand σ a = false ∧ X8_isHand ρ a = true) ∨ (X7_isNoHand σ a = true ∧ X8_isHand ρ a = false) := by
  have m8 : m ≤ 8 := h.2.2.2.2.2.2.2.1
  unfold X7_isNoHand X8_isHand
  rw [h.2.2.2.2.2.2.2.2.1, h.2.2.2.2.2.2.2.2.2.1]
  rcases in_pred (a := a) (N := m) (by omega) with ⟨j, j1, j2, j3, j4, j5⟩ | ⟨j3, j4 | ⟨j4, j5⟩⟩
  · exact Or.inl ⟨j, j1, j2, by rw [if_neg j4, if_pos j5], j3⟩
  · exact Or.inr ⟨by rw [if_pos j4], j3⟩
  · exact Or.inr ⟨by rw [if_neg j4, if_neg j5], j3⟩
theorem case10 (hn : 2200 < n) (hL : k + 5 < L) (hL2 : L ≤ 3072) (hk : KT n c kont (nI k)) (h : hRel n c χ σ τ ρ) : L_c10 n L xs kont χ σ τ o ρ (nI k) = some true := by
  have hr1 := hRel_ref (rSame_2 (a := 1) (hRel_now h)) h
  have hch := hRel_ch h
  obtain ⟨F, H, N, m, x, y, kd, nx, ot, G, D, v, P', τ', j, T, h1, e1, e2, e3, e4, e5, e6, e7, e8, e9, e10, e11, e12⟩ := search hn h
  have h2 := hS_2 (a := 0) h1
  have m8 : m ≤ 8 := h1.2.2.2.2.2.2.2.1
  obtain ⟨s1, s2, s3, s4⟩ := scr_at h1
  unfold L_c10
  rw [nI_1, show nI k + 2 = nI (k + 2) from nI_add k 2, if_neg (pu_g (n := L) (by omega) (by omega)), if_neg (pu_g (n := L) (by omega) (by omega))]
  generalize xs (nI (k + 1)).toNatClampNeg = a1
  generalize xs (nI (k + 2)).toNatClampNeg = a2
  refine ans hk ?_
  have fl : (X8_fail (sC ρ 0 (am_u (ρ 0) 2 0)) 1).bind (fun q1 => some (q1.1, q1.2)) = some ((0 : Int32), sC ρ 0 (am_u (ρ 0) 2 1)) := by
    unfold X8_fail
    dsimp only [Option.bind]
    rw [code_21]
  unfold X7_could X8_could X7_could_J20 X8_could_J31
  rw [fl]
  rcases hand_at h2 a1 with ⟨g, g1, rfl, g3, g4⟩ | ⟨g3, g4⟩
  · rw [g3, g4, if_neg Bool.false_ne_true, if_pos rfl]
    rcases kind_at h2 a2 with ⟨s, q1, rfl, q3, q4⟩ | ⟨q3, q4⟩
    · rw [q3, q4, if_pos rfl, if_neg (pu_g (n := 80) (by omega) (by omega)), nI_clamp (by omega), (s4 s q1).2.2]
      by_cases z : nI (kd s) = 4
      · rw [if_pos z, if_pos z, e1, e2]
        dsimp only [Option.bind]
        rw [e5]
        by_cases h0 : v.1 = 0
        · rw [if_pos h0, if_pos (decide_eq_true h0), show (40 : Int32) * nI g = nI (40 * g) from pk_mul 40 g, nI_add, if_neg (pu_g (n := 320) (by omega) (by omega)), nI_clamp (by omega), e4.2.2.1 _ (by omega)]
          refine ⟨_, _, _, _, _, _, rfl, rfl, e10, e12 T (rSame_r e11), Or.inl ⟨_, rfl, e9, ?_⟩⟩
          unfold X4_takenFrom
          rw [show nI g * 40 = nI (g * 40) from pk_mul g 40, nI_add, jat_nI (by omega) (by omega), e3.2.2.2.1 _ (by omega), Nat.mul_comm]
        · rw [if_neg h0, if_neg (by rw [decide_eq_true_eq]; exact h0)]
          exact ⟨_, _, _, _, _, _, rfl, rfl, e10, e12 T (rSame_r e11), Or.inl ⟨_, rfl, e9, rfl⟩⟩
      · rw [if_neg z, if_neg z]
        exact ⟨_, _, _, _, _, _, rfl, rfl, hch, hr1, Or.inr ⟨rfl, rfl⟩⟩
    · rw [q3, q4, if_neg (show ¬ ((-1 : Int32) = 4) by decide), if_neg Bool.false_ne_true]
      exact ⟨_, _, _, _, _, _, rfl, rfl, hch, hr1, Or.inr ⟨rfl, rfl⟩⟩
  · rw [g3, g4, if_pos rfl, if_neg Bool.false_ne_true]
    exact ⟨_, _, _, _, _, _, rfl, rfl, hch, hr1, Or.inr ⟨rfl, rfl⟩⟩
theorem case13 (hL : k + 5 < L) (hL2 : L ≤ 3072) (hk : KT n c kont (nI k)) (h : hRel n c χ σ τ ρ) : L_c13 n L xs kont χ σ τ o ρ (nI k) = some true := by
  have hr0 := hRel_ref (rSame_2 (a := 0) (hRel_now h)) h
  have hr1 := hRel_ref (rSame_2 (a := 1) (hRel_now h)) h
  obtain ⟨F, H, N, m, x, y, v, tv, kd, nx, ot, G, D, h1, -, -, h4, -⟩ := h
  have h2 := hS_2 (a := 0) h1
  have N4 : N ≤ 40 := h1.1.1
  unfold L_c13
  rw [nI_1, if_neg (pu_g (n := L) (by omega) (by omega))]
  generalize xs (nI (k + 1)).toNatClampNeg = a
  have fl : (X8_refuse (sC ρ 0 (am_u (ρ 0) 2 0)) 1).bind (fun q1 => some (q1.1, q1.2)) = some (false, sC ρ 0 (am_u (ρ 0) 2 1)) := by
    unfold X8_refuse
    dsimp only [Option.bind]
    rw [code_21]
  have bad : ∀ (q2 : Option (Option Bool)) (w : Option (Bool × am_M)), q2 = some none → w = some (false, sC ρ 0 (am_u (ρ 0) 2 1)) → q2.bind (fun q2 => w.bind (fun q3 => if (X8_thrown q3.2) = (hR q2) then (if (hR q2) = 0 then (if (b2i q3.1) = 0 then (if (lg_cmp ((hO b2i o q2) (0 : Int32).toNatClampNeg) 0) = 0 then (kont χ σ τ (hO b2i o q2) q3.2 (nI k + 6)) else (some false)) else (if (lg_cmp ((hO b2i o q2) (0 : Int32).toNatClampNeg) 1) = 0 then (kont χ σ τ (hO b2i o q2) q3.2 (nI k + 6)) else (some false))) else (kont χ σ τ (hO b2i o q2) q3.2 (nI k + 6))) else (some false))) = some true := by
    intro q2 w z1 z2
    rw [z1, z2]
    dsimp only [Option.bind]
    rw [if_pos (show X8_thrown (sC ρ 0 (am_u (ρ 0) 2 1)) = hR (none : Option Bool) from rfl), if_neg (by rw [hR_n]; decide)]
    exact hk _ _ _ _ _ hr1
  unfold X7_left X8_left X7_left_J19 X8_left_J24
  rw [fl]
  rcases kind_at h2 a with ⟨s, q1, rfl, q3, q4⟩ | ⟨q3, q4⟩
  · rw [q3, q4, if_neg (show ¬ nI (kd s) = -1 from pu_ne1 (by have := (h1.1.2.2.2 s q1).1.1; omega)), if_pos rfl]
    rcases h4 with ⟨-, ⟨z1, z2⟩ | ⟨z1, z2, z3⟩⟩
    · rw [if_pos z1, if_neg z2]
      exact bad _ _ rfl rfl
    · rw [if_neg (by rw [z1]; decide), if_pos z2, if_neg (pu_g (n := 40) (by omega) (by omega)), nI_clamp (by omega)]
      rcases z3 s q1 with ⟨y1, y2⟩ | ⟨y1, y2⟩
      · rw [y2, y1, if_pos (show lg_cmp 0 0 = 0 from lgz.mpr rfl), if_neg (show ¬ (1 : Int32) = 0 by decide), if_pos (show (1 : Int32) = 1 from rfl)]
        dsimp only [Option.bind]
        rw [if_pos (show X8_thrown (sC ρ 0 (am_u (ρ 0) 2 0)) = hR (some true) from rfl), if_pos (hR_s), if_neg (show ¬ b2i true = 0 by decide), if_pos (by rw [hO_0]; exact lgz.mpr rfl)]
        exact hk _ _ _ _ _ hr0
      · rw [y1, if_neg (show ¬ lg_cmp (am_lushr (τ 0) (nI s) &&& 1) 0 = 0 from fun e => y2 (lgz.mp e)), if_pos rfl]
        dsimp only [Option.bind]
        rw [if_pos (show X8_thrown (sC ρ 0 (am_u (ρ 0) 2 0)) = hR (some false) from rfl), if_pos (hR_s), if_pos (show b2i false = 0 from rfl), if_pos (by rw [hO_0]; exact lgz.mpr rfl)]
        exact hk _ _ _ _ _ hr0
  · refine bad _ _ ?_ ?_
    · rw [q3]
      by_cases z : σ 0 10 = 0
      · rw [if_pos z]
      · rw [if_neg z, if_pos rfl]
    · rw [q4, if_neg Bool.false_ne_true]
theorem case8 (hn : 2200 < n) (hL : k + 5 < L) (hL2 : L ≤ 3072) (hk : KT n c kont (nI k)) (h : hRel n c χ σ τ ρ) : L_c8 n L xs kont χ σ τ o ρ (nI k) = some true := by
  have hch := hRel_ch h
  obtain ⟨b, T0, f1, f2, f3⟩ := told_rel hn h
  obtain ⟨F, H, N, m, x, y, kd, nx, ot, G, D, v, P', τ', j, T, h1, e1, e2, e3, e4, e5, e6, e7, e8, e9, e10, e11, e12⟩ := search hn h
  have m8 : m ≤ 8 := h1.2.2.2.2.2.2.2.1
  have σ2 : σ 0 2 = nI m := h1.2.2.2.2.2.2.2.2.1
  have ρ3 : ρ 0 3 = nI m := h1.2.2.2.2.2.2.2.2.2.1
  unfold L_c8
  rw [nI_1, show nI k + 2 = nI (k + 2) from nI_add k 2, if_neg (pu_g (n := L) (by omega) (by omega)), if_neg (pu_g (n := L) (by omega) (by omega))]
  generalize xs (nI (k + 1)).toNatClampNeg = a1
  generalize xs (nI (k + 2)).toNatClampNeg = a2
  refine ans hk ?_
  have fl : ∀ R : am_M, X8_ending_J59 n R = some ((0 : Int32), sC R 0 (am_u (R 0) 2 1)) := fun R => rfl
  have e0 : X8_ending_J33 n (sC ρ 0 (am_u (ρ 0) 2 0)) a1 a2 0 = some ((0 : Int32), sC T0 0 (am_u (T0 0) 2 1)) := by
    unfold X8_ending_J33
    rw [f1]
    dsimp only [Option.bind]
    rw [fl, if_pos rfl]
    split
    · split <;> rfl
    · rfl
  have bad : X7_ending n σ τ χ a1 a2 = some (none, σ, τ, χ) → X8_ending n ρ a1 a2 = X8_ending_J33 n (sC ρ 0 (am_u (ρ 0) 2 0)) a1 a2 0 → ∃ r χ' σ' τ' b ρ', X7_ending n σ τ χ a1 a2 = some (r, σ', τ', χ') ∧ X8_ending n ρ a1 a2 = some (b, ρ') ∧ am_chib χ' = true ∧ hRel n (c + 1) χ' σ' τ' ρ' ∧ ((∃ v, r = some v ∧ ρ' 0 2 = 0 ∧ b = v) ∨ (r = none ∧ ρ' 0 2 = 1)) := fun z1 z2 => ⟨_, _, _, _, _, _, z1, z2.trans e0, hch, f3 _ (rSame_2 f2), Or.inr ⟨rfl, rfl⟩⟩
  have good : (∃ w : Nat, w < 11 ∧ (v.1 = 0 → ∀ e, e < v.2.2.2.1 → X4_tellEnding n (am_sg (am_pg σ 26 8 P') 26) (nI e) a2 = some (T 25 (11 * e + w)) ∧ ∀ (X Y : Option (Int32 × am_M)), (if a2 = 0 then (if (11 * nI e) < 0 ∨ 2211 ≤ (11 * nI e).toNatClampNeg then none else (some ((T 25 (11 * nI e).toNatClampNeg), T))) else (if a2 = 1 then (if ((11 * nI e) + 9) < 0 ∨ 2211 ≤ ((11 * nI e) + 9).toNatClampNeg then none else (some ((T 25 ((11 * nI e) + 9).toNatClampNeg), T))) else (if a2 = 2 then (if ((11 * nI e) + 10) < 0 ∨ 2211 ≤ ((11 * nI e) + 10).toNatClampNeg then none else (some ((T 25 ((11 * nI e) + 10).toNatClampNeg), T))) else (if (((11 * nI e) + a2) - 3) < 0 ∨ 2211 ≤ (((11 * nI e) + a2) - 3).toNatClampNeg then none else (some ((T 25 (((11 * nI e) + a2) - 3).toNatClampNeg), T)))))) = some (T 25 (11 * e + w), T))) → X7_ending n σ τ χ a1 a2 = (X4_explore n (am_sg σ 26) (am_sg τ 26) (σ 0 2) (σ 0 3) 0).bind (fun q4 => if ((am_pg σ 26 8 q4.1) 26 11) = 0 then (if a1 < 0 then (X7_ending_J74 n (am_pg σ 26 8 q4.1) (am_pg τ 26 8 q4.2.1) (updN χ 27 ((am_gj 26 8 (χ 27)).getD q4.2.2 0))) else (if a1 < ((am_pg σ 26 8 q4.1) 26 10) then (X4_tellEnding n (am_sg (am_pg σ 26 8 q4.1) 26) a1 a2).bind (fun q8 => some (some q8, am_pg σ 26 8 q4.1, am_pg τ 26 8 q4.2.1, updN χ 27 ((am_gj 26 8 (χ 27)).getD q4.2.2 0))) else (X7_ending_J74 n (am_pg σ 26 8 q4.1) (am_pg τ 26 8 q4.2.1) (updN χ 27 ((am_gj 26 8 (χ 27)).getD q4.2.2 0))))) else (X7_ending_J74 n (am_pg σ 26 8 q4.1) (am_pg τ 26 8 q4.2.1) (updN χ 27 ((am_gj 26 8 (χ 27)).getD q4.2.2 0)))) → X8_ending n ρ a1 a2 = X8_ending_J33 n (sC ρ 0 (am_u (ρ 0) 2 0)) a1 a2 1 → ∃ r χ' σ' τ' b ρ', X7_ending n σ τ χ a1 a2 = some (r, σ', τ', χ') ∧ X8_ending n ρ a1 a2 = some (b, ρ') ∧ am_chib χ' = true ∧ hRel n (c + 1) χ' σ' τ' ρ' ∧ ((∃ v, r = some v ∧ ρ' 0 2 = 0 ∧ b = v) ∨ (r = none ∧ ρ' 0 2 = 1)) := by
    rintro ⟨w, w1, w2⟩ z1 z2
    have no : X7_ending n σ τ χ a1 a2 = some (none, am_pg σ 26 8 P', am_pg τ 26 8 τ', updN χ 27 ((am_gj 26 8 (χ 27)).getD j 0)) → X8_ending n ρ a1 a2 = some ((0 : Int32), sC T 0 (am_u (T 0) 2 1)) → ∃ r χ' σ' τ' b ρ', X7_ending n σ τ χ a1 a2 = some (r, σ', τ', χ') ∧ X8_ending n ρ a1 a2 = some (b, ρ') ∧ am_chib χ' = true ∧ hRel n (c + 1) χ' σ' τ' ρ' ∧ ((∃ v, r = some v ∧ ρ' 0 2 = 0 ∧ b = v) ∨ (r = none ∧ ρ' 0 2 = 1)) := fun y1 y2 => ⟨_, _, _, _, _, _, y1, y2, e10, e12 _ (rSame_2 e11), Or.inr ⟨rfl, rfl⟩⟩
    rw [e1] at z1
    unfold X8_ending_J33 at z2
    rw [e2] at z2
    dsimp only [Option.bind] at z1 z2
    rw [e5] at z1
    by_cases h0 : v.1 = 0
    · obtain ⟨t1, t2, t3⟩ := e4.2.2.2 h0
      rw [if_pos h0, e7 h0] at z1
      rw [if_pos (decide_eq_true h0)] at z2
      rcases in_pred (a := a1) (N := v.2.2.2.1) (by omega) with ⟨e, i1, rfl, i3, i4, i5⟩ | ⟨i3, i4⟩
      · rw [if_neg i4, if_pos i5, (w2 h0 e i1).1] at z1
        rw [if_pos (show X8_isIn (nI e) 0 (T 0 51 - 1) = true by rw [t1]; exact i3), if_neg (show ¬ (1 : Int32) = 0 by decide), (w2 h0 e i1).2 none none] at z2
        exact ⟨_, _, _, _, _, _, z1, z2, e10, e12 T (rSame_r e11), Or.inl ⟨_, rfl, e9, rfl⟩⟩
      · rw [if_neg (show ¬ X8_isIn a1 0 (T 0 51 - 1) = true by rw [t1, i3]; exact Bool.false_ne_true), fl] at z2
        rcases i4 with i4 | ⟨i4, i5⟩
        · rw [if_pos i4] at z1
          exact no z1 z2
        · rw [if_neg i4, if_neg i5] at z1
          exact no z1 z2
    · rw [if_neg h0] at z1
      rw [if_neg (by rw [decide_eq_true_eq]; exact h0), fl] at z2
      exact no z1 z2
  have eT := fun (h0 : v.1 = 0) (e : Nat) (he : e < v.2.2.2.1) => tellE n hn m8 e3 e4 h0 he
  have F2 : v.1 = 0 → v.2.2.2.1 ≤ 200 := fun h0 => (e4.2.2.2 h0).2.1
  by_cases w1 : a2 < 0
  · refine bad ?_ ?_
    · unfold X7_ending X7_ending_J19
      rw [if_pos w1]
    · unfold X8_ending
      rw [isIn_eq, isIn_eq, if_neg (by rw [decide_eq_true_eq]; exact fun q => Int32.not_le.mpr w1 q.1), if_neg (by rw [decide_eq_true_eq]; exact fun q => Int32.not_le.mpr w1 (Int32.le_trans (by decide) q.1))]
  · obtain ⟨g, hg, rfl⟩ := nI_of w1
    have i2 : X8_isIn (nI g) 0 2 = decide (g ≤ 2) := by
      rw [isIn_eq]
      exact decide_eq_decide.mpr ⟨fun q => (nI_leI (b := 2) hg (by omega)).mp q.2, fun q => ⟨Int32.not_lt.mp w1, (nI_leI (b := 2) hg (by omega)).mpr q⟩⟩
    have i3 : X8_isIn (nI g) 4 (3 + ρ 0 3) = decide (4 ≤ g ∧ g ≤ 3 + m) := by
      rw [isIn_eq, ρ3, show (3 : Int32) + nI m = nI (3 + m) from nI_add 3 m]
      exact decide_eq_decide.mpr ⟨fun q => ⟨(nI_leI (a := 4) (by omega) hg).mp q.1, (nI_leI hg (by omega)).mp q.2⟩, fun q => ⟨(nI_leI (a := 4) (by omega) hg).mpr q.1, (nI_leI hg (by omega)).mpr q.2⟩⟩
    have l4 : nI g < 4 + σ 0 2 ↔ g < 4 + m := by
      rw [σ2, show (4 : Int32) + nI m = nI (4 + m) from nI_add 4 m]
      exact ⟨fun q => by
        rcases Nat.lt_or_ge g (4 + m) with z | z
        · exact z
        · exact absurd q (Int32.not_lt.mpr ((nI_leI (by omega) hg).mpr z)), fun q => Int32.not_le.mp (fun z => by have := (nI_leI (by omega) hg).mp z; omega)⟩
    have ne : ∀ z : Nat, z < 4 → g ≠ z → ¬ nI g = nI z := fun z hz q e => q ((nI_eq hg (by omega)).mp e)
    by_cases g3 : g = 3
    · refine bad ?_ ?_
      · unfold X7_ending X7_ending_J19
        rw [if_neg w1, if_pos (by rw [g3]; rfl)]
      · unfold X8_ending
        rw [i2, show (sC ρ 0 (am_u (ρ 0) 2 0)) = sC ρ 0 (am_u (ρ 0) 2 0) from rfl, i3, if_neg (by rw [decide_eq_true_eq]; omega), if_neg (by rw [decide_eq_true_eq]; omega)]
    · by_cases gm : g < 4 + m
      · refine good ?_ ?_ ?_
        · by_cases g0 : g = 0
          · refine ⟨0, by omega, fun h0 e he => ⟨by rw [g0]; exact (eT h0 e he).1, fun _ _ => ?_⟩⟩
            have := F2 h0
            rw [if_pos (by rw [g0]; rfl), show (11 : Int32) * nI e = nI (11 * e) from pk_mul 11 e, if_neg (pu_g (n := 2211) (by omega) (by omega)), nI_clamp (by omega)]
            rfl
          · by_cases g1 : g = 1
            · refine ⟨9, by omega, fun h0 e he => ⟨by rw [g1]; exact (eT h0 e he).2.1, fun _ _ => ?_⟩⟩
              have := F2 h0
              rw [if_neg (show ¬ nI g = (0 : Int32) from ne 0 (by omega) g0), if_pos (by rw [g1]; rfl), show (11 : Int32) * nI e = nI (11 * e) from pk_mul 11 e, show nI (11 * e) + 9 = nI (11 * e + 9) from nI_add _ 9, if_neg (pu_g (n := 2211) (by omega) (by omega)), nI_clamp (by omega)]
            · by_cases g2 : g = 2
              · refine ⟨10, by omega, fun h0 e he => ⟨by rw [g2]; exact (eT h0 e he).2.2.1, fun _ _ => ?_⟩⟩
                have := F2 h0
                rw [if_neg (show ¬ nI g = (0 : Int32) from ne 0 (by omega) g0), if_neg (show ¬ nI g = (1 : Int32) from ne 1 (by omega) g1), if_pos (by rw [g2]; rfl), show (11 : Int32) * nI e = nI (11 * e) from pk_mul 11 e, show nI (11 * e) + 10 = nI (11 * e + 10) from nI_add _ 10, if_neg (pu_g (n := 2211) (by omega) (by omega)), nI_clamp (by omega)]
              · obtain ⟨x', rfl⟩ : ∃ x', g = 4 + x' := ⟨g - 4, by omega⟩
                refine ⟨1 + x', by omega, fun h0 e he => ⟨?_, fun _ _ => ?_⟩⟩
                · rw [(eT h0 e he).2.2.2 x' (by omega), show 11 * e + (4 + x') - 3 = 11 * e + (1 + x') by omega]
                · have := F2 h0
                  rw [if_neg (show ¬ nI (4 + x') = (0 : Int32) from ne 0 (by omega) (by omega)), if_neg (show ¬ nI (4 + x') = (1 : Int32) from ne 1 (by omega) (by omega)), if_neg (show ¬ nI (4 + x') = (2 : Int32) from ne 2 (by omega) (by omega)), show (11 : Int32) * nI e = nI (11 * e) from pk_mul 11 e, nI_add, show 11 * e + (4 + x') = 3 + (11 * e + (1 + x')) by omega, show nI (3 + (11 * e + (1 + x'))) - 3 = nI (11 * e + (1 + x')) from nI_asb 3 _, if_neg (pu_g (n := 2211) (by omega) (by omega)), nI_clamp (by omega)]
        · unfold X7_ending
          rw [if_neg w1, if_neg (show ¬ nI g = (3 : Int32) from ne 3 (by omega) g3), if_pos (l4.mpr gm)]
        · unfold X8_ending X8_ending_J28
          rw [i2]
          by_cases g2 : g ≤ 2
          · rw [if_pos (decide_eq_true g2)]
          · rw [if_neg (by rw [decide_eq_true_eq]; exact g2)]
            have i3' : X8_isIn (nI g) 4 (3 + (sC ρ 0 (am_u (ρ 0) 2 0)) 0 3) = decide (4 ≤ g ∧ g ≤ 3 + m) := i3
            rw [i3, if_pos (decide_eq_true (by omega))]
      · refine bad ?_ ?_
        · unfold X7_ending X7_ending_J19
          rw [if_neg w1, if_neg (show ¬ nI g = (3 : Int32) from ne 3 (by omega) g3), if_neg (fun q => gm (l4.mp q))]
        · unfold X8_ending
          rw [i2, i3, if_neg (by rw [decide_eq_true_eq]; omega), if_neg (by rw [decide_eq_true_eq]; omega)]
end WORLD
