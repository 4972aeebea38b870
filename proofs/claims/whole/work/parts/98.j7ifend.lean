/-! STEPS ARE READ: an 'if' ends -/
section IFEND
variable {n : Nat} {b : Nat → Int32} {A K0 : Nat} {S R : am_M}
theorem if_end (hn : 2200 < n) (hK : KB b A K0) {k i z q N M N2 f : Nat} (rE : am_M → Int32 → Int32 → Option (Int32 × am_M)) (hf : f < 4) (h : bF b A K0 S R k z q N2 (f + 1)) (hi : i ≤ k) (hNM : N < M) (hM : M ≤ N2) (h14 : S 14 f = nI N) (h15 : (S 15 f = -1 ∧ M = N2) ∨ S 15 f = nI M) (tok : SK b A (tkB b A k) = 28 ∨ SK b A (tkB b A k) = 25 ∨ (SK b A (tkB b A k) = 24 ∧ S 15 f = nI M)) (r12 : R 12 (40 + N) = if M = N + 1 then -1 else nI (N + 1)) (r13 : R 13 (40 + N) = if M = N2 then -1 else nI M) (k7 : S 7 N = 10) (hs : sF S R N z q) (facts : ∀ s, N < s → s < N2 → sF S R s z q ∧ ∃ tg e, s < tg ∧ tg ≤ e ∧ ((e = M ∧ s < M) ∨ (e = N2 ∧ M ≤ s)) ∧ lF S R s tg ∧ (tg < e → rch (bh R) (4 - f) s (nI tg)) ∧ (tg = e → pch (bh R) (4 - f) s N)) : ∃ R', (X8_readBranches_J62 n rE R).bind (fun q56 => X8_readStep_J475 n rE q56) = some R' ∧ ((∃ t S' k' g, run n S i t S' ∧ bF b A K0 S' R' k' z q N2 f ∧ k + t ≤ k' ∧ k < k' ∧ gC N z f S S' ∧ R' = sC R 0 g ∧ (∀ j, j < 11 ∨ j = 12 ∨ j = 20 ∨ 22 ≤ j → g j = R 0 j) ∧ sF S' R' N z q ∧ lF S' R' N N2 ∧ ∀ s, N < s → s < N2 → sF S' R' s z q ∧ ∃ tg, s < tg ∧ tg ≤ N2 ∧ lF S' R' s tg ∧ (tg < N2 → rch (bh R') (4 - f) s (nI tg)) ∧ (tg = N2 → pch (bh R') (4 - f) s N)) ∨ failO n K0 S i k R R') := by
  have A7 := hK.1
  have K0A := hK.2.2.1
  have kk := bF_k h
  obtain ⟨a, h67, h68, h06, N40, h41, hb1, hb2⟩ := h
  have sub6 : nI (f + 1) - 1 = nI f := sub1 f
  have n06 : ¬ S 0 6 = 0 := by
    rw [h06]
    exact fun z => by have := (nI_eq (b := 0) (by omega) (by omega)).mp z; omega
  have j15 : jat 4 (S 15) (S 0 6 - 1) = S 15 f := by rw [h06, sub6, jat_nI hf (by omega)]
  have j14 : jat 4 (S 14) (S 0 6 - 1) = nI N := by rw [h06, sub6, jat_nI hf (by omega), h14]
  unfold X8_readBranches_J62 X8_word X8_word_J20
  rw [if_pos a.2.2.2.2.1, is_eq n hn hK.1 hK.2.1 a.2.2.2.1 a.2.2.2.2.1 (show 25 < 26 by omega)]
  dsimp only [Option.bind]
  by_cases t25 : SK b A (tkB b A k) = nI 25
  · rw [decide_eq_true t25, if_pos rfl, if_pos a.2.2.2.2.1]
    obtain ⟨Sa, hSa⟩ : ∃ Sa, Sa = sC S 0 (am_u (S 0) 6 (nI f)) := ⟨_, rfl⟩
    have c07 : (am_sub Sa 6) 0 7 = nI N2 := by rw [hSa]; exact h67
    obtain ⟨C', v0, v1, v2, v3⟩ := close_loop (n := n) hM N40 hNM (M - (N + 1)) (N + 1) n (am_sub Sa 6) (by omega) (by omega) (by omega) c07
    obtain ⟨Sb, hSb⟩ : ∃ Sb, Sb = am_put Sa 6 8 C' := ⟨_, rfl⟩
    have sb : ∀ c, c ≠ 8 → c ≠ 9 → Sb c = Sa c := fun c h8 h9 => by
      rw [hSb, put_68]
      by_cases y : 6 ≤ c ∧ c < 14
      · rw [if_pos y, v1 (c - 6) (by omega) (by omega)]
        show Sa (6 + (c - 6)) = Sa c
        rw [show 6 + (c - 6) = c by omega]
      · rw [if_neg y]
    have sa : ∀ c, c ≠ 0 → Sa c = S c := fun c hc => by rw [hSa, sC_ne hc]
    have sb8 : ∀ j, Sb 8 j = if j = N then (if M = N + 1 then nI N2 else nI (N + 1)) else if N + 1 ≤ j ∧ j < M ∧ S 8 j = nI M then nI N2 else S 8 j := fun j => by
      rw [hSb, put_68, if_pos (by omega)]
      have := v2 j
      rw [show (am_sub Sa 6) 2 = S 8 from sa 8 (by omega)] at this
      exact this
    have sb9 : ∀ j, Sb 9 j = if j = N then nI M else if N + 1 ≤ j ∧ j < M ∧ S 9 j = nI M then nI N2 else S 9 j := fun j => by
      rw [hSb, put_68, if_pos (by omega)]
      have := v3 j
      rw [show (am_sub Sa 6) 3 = S 9 from sa 9 (by omega)] at this
      exact this
    have b0 : Sb 0 = am_u (S 0) 6 (nI f) := by rw [sb 0 (by omega) (by omega), hSa] <;> rfl
    have bo : ∀ c, c ≠ 0 → c ≠ 8 → c ≠ 9 → Sb c = S c := fun c h0 h8 h9 => (sb c h8 h9).trans (sa c h0)
    have ab : at2 b A K0 k z q Sb R := by
      obtain ⟨t1, t2, t3, t4, t5, t6, t7⟩ := a
      refine ⟨?_, by rw [b0]; exact t2, by rw [bo 6 (by omega) (by omega) (by omega)]; exact t3, t4, t5, t6, by rw [b0]; exact t7⟩
      unfold tkC at t1 ⊢
      rw [bo 1 (by omega) (by omega) (by omega), bo 3 (by omega) (by omega) (by omega), bo 4 (by omega) (by omega) (by omega), bo 5 (by omega) (by omega) (by omega)]
      exact t1
    have kl : k < K0 := at2_end hK a (by rw [t25]; decide)
    obtain ⟨d1, g, d2, d3, d4⟩ := at2_adv hn hK ab kl
    obtain ⟨S', R', e1, e2, e3⟩ := sign2 hn hK d4
    have cl : X1_closeIf n S = some S' := by
      have j66 : X1_closeIf_J66 n Sa (nI M) (nI N) = some S' := by
        unfold X1_closeIf_J66 X3_close
        rw [nI_1, v0]
        dsimp only [Option.bind]
        rw [← hSb, d1]
        dsimp only
        rw [put_1, e1]
      unfold X1_closeIf
      rw [if_neg n06, j15, j14]
      rw [show (S 0 6 - 1) = nI f by rw [h06, sub6], ← hSa, h67]
      rcases h15 with ⟨y1, y2⟩ | y
      · rw [if_pos y1, ← y2]
        exact j66
      · rw [if_neg (by rw [y]; exact pu_ne1 (by omega)), y]
        exact j66
    have rn : run n S i 1 S' := fun K => by
      rw [L32_go hK a (by omega) (show 25 < 356 by omega) t25 (by omega), if_pos (by omega), if_neg (by omega), if_pos rfl, cl] <;> rfl
    rw [d2]
    dsimp only
    unfold X8_readStep_J475
    rw [e2]
    refine ⟨R', rfl, ?_⟩
    rcases e3 with ⟨v, g', w1, w2, w3, w4⟩ | ⟨w1, w2⟩
    · have s0 : S' 0 = am_u (S 0) 6 (nI f) := by rw [w1]; exact b0
      have so : ∀ c, c ≠ 0 → c ≠ 1 → c ≠ 8 → c ≠ 9 → S' c = S c := fun c h0 h1 h8 h9 => by
        rw [w1, sC_ne h1, sC_ne h1]
        exact bo c h0 h8 h9
      have s8 : S' 8 = Sb 8 := by rw [w1] <;> rfl
      have s9 : S' 9 = Sb 9 := by rw [w1] <;> rfl
      have s7 := so 7 (by omega) (by omega) (by omega) (by omega)
      have s6 := so 6 (by omega) (by omega) (by omega) (by omega)
      have Rg : R' = sC R 0 g' := by rw [w2, sC_sC]
      have gg : ∀ j, j < 11 ∨ j = 12 ∨ j = 20 ∨ 22 ≤ j → g' j = R 0 j := fun j hj => (w3 j hj).trans (d3 j (by omega))
      have st : ∀ s, sF S R s z q → sF S' R' s z q := fun s x => by
        rw [Rg]
        exact sF_st x (by rw [s7]) (by rw [so 10 (by omega) (by omega) (by omega) (by omega)]) (by rw [so 11 (by omega) (by omega) (by omega) (by omega)]) (fun w _ => by rw [so 12 (by omega) (by omega) (by omega) (by omega)]) (fun w _ => by rw [so 13 (by omega) (by omega) (by omega) (by omega)]) rfl rfl rfl (fun _ _ => ⟨rfl, rfl⟩) (fun _ _ => rfl) (Nat.le_refl _) (Nat.le_refl _)
      have eb : bh R' = bh R := by rw [Rg] <;> rfl
      refine Or.inl ⟨1, S', k + 1 + 1, g', rn, ⟨w4, ?_, ?_, ?_, N40, ?_, by omega, by omega⟩, by omega, by omega, ⟨fun c h1 h2 j hj => ?_, fun j hj => by rw [so 12 (by omega) (by omega) (by omega) (by omega)], fun j hj => by rw [so 13 (by omega) (by omega) (by omega) (by omega)], fun j hj => ⟨by rw [so 14 (by omega) (by omega) (by omega) (by omega)], by rw [so 15 (by omega) (by omega) (by omega) (by omega)]⟩⟩, Rg, gg, st N hs, ?_, fun s h1 h2 => ?_⟩
      · rw [s6]; exact h67
      · rw [s6, h68]
        unfold anS
        rw [s7]
      · rw [s0] <;> rfl
      · rw [Rg]; exact h41
      · by_cases c8 : c = 8
        · rw [c8, s8, sb8 j, if_neg (by omega), if_neg (by omega)]
        · by_cases c9 : c = 9
          · rw [c9, s9, sb9 j, if_neg (by omega), if_neg (by omega)]
          · rw [so c (by omega) (by omega) c8 c9]
      · refine ⟨fun y => absurd (by rw [s7]; exact k7) y, fun _ => ⟨if M = N + 1 then N2 else N + 1, M, ?_, ?_, ?_, ?_⟩⟩
        · rw [s8, sb8 N, if_pos rfl]
          split <;> rfl
        · rw [s9, sb9 N, if_pos rfl]
        · rw [Rg]
          show (R 12 (40 + N) = -1 ∧ _) ∨ (R 12 (40 + N) = _ ∧ _)
          rw [r12]
          by_cases y : M = N + 1
          · rw [if_pos y, if_pos y]
            exact Or.inl ⟨rfl, rfl⟩
          · rw [if_neg y, if_neg y]
            exact Or.inr ⟨rfl, by omega, by omega⟩
        · rw [Rg]
          show (R 13 (40 + N) = -1 ∧ _) ∨ (R 13 (40 + N) = _ ∧ _)
          rw [r13]
          by_cases y : M = N2
          · rw [if_pos y]
            exact Or.inl ⟨rfl, y⟩
          · rw [if_neg y]
            exact Or.inr ⟨rfl, by omega, by omega⟩
      · obtain ⟨x1, tg, e, x2, x3, x4, x5, x6, x7⟩ := facts s h1 h2
        refine ⟨st s x1, ?_⟩
        rw [eb]
        rcases x4 with ⟨y1, y2⟩ | ⟨y1, y2⟩
        · have up : ∀ v, s < v → v ≤ M → (if N + 1 ≤ s ∧ s < M ∧ nI v = nI M then nI N2 else nI v) = nI (if v = M then N2 else v) := fun v _ hv => by
            by_cases vm : v = M
            · rw [if_pos vm, if_pos ⟨by omega, y2, by rw [vm]⟩]
            · rw [if_neg vm, if_neg (fun z => vm ((nI_eq (by omega) (by omega)).mp z.2.2))]
          refine ⟨if tg = M then N2 else tg, ?_, ?_, ⟨fun y => ?_, fun y => ?_⟩, fun y => ?_, fun y => ?_⟩
          · split <;> omega
          · split <;> omega
          · rw [s7] at y
            rw [s8, sb8 s, if_neg (by omega), x5.1 y]
            exact up tg x2 (by omega)
          · rw [s7] at y
            obtain ⟨nx, ot, u1, u2, u3, u4⟩ := x5.2 y
            have bnd : ∀ v, (v = tg ∨ (s < v ∧ v < tg)) → s < v ∧ v ≤ M := fun v hv => by omega
            refine ⟨if nx = M then N2 else nx, if ot = M then N2 else ot, ?_, ?_, ?_, ?_⟩
            · have := bnd nx (u3.imp (fun z => z.2) (fun z => z.2))
              rw [s8, sb8 s, if_neg (by omega), u1]
              exact up nx this.1 this.2
            · have := bnd ot (u4.imp (fun z => z.2) (fun z => z.2))
              rw [s9, sb9 s, if_neg (by omega), u2]
              exact up ot this.1 this.2
            · rw [Rg]
              rcases u3 with ⟨p1, p2⟩ | ⟨p1, p2, p3⟩
              · exact Or.inl ⟨p1, by rw [p2]⟩
              · refine Or.inr ⟨?_, ?_, ?_⟩
                · rw [if_neg (by omega)]; exact p1
                · rw [if_neg (by omega)]; exact p2
                · rw [if_neg (show ¬ nx = M by omega)]
                  split <;> omega
            · rw [Rg]
              rcases u4 with ⟨p1, p2⟩ | ⟨p1, p2, p3⟩
              · exact Or.inl ⟨p1, by rw [p2]⟩
              · refine Or.inr ⟨?_, ?_, ?_⟩
                · rw [if_neg (by omega)]; exact p1
                · rw [if_neg (by omega)]; exact p2
                · rw [if_neg (show ¬ ot = M by omega)]
                  split <;> omega
          · by_cases tm : tg = M
            · rw [if_pos tm] at y
              omega
            · rw [if_neg tm]
              exact x6 (by omega)
          · by_cases tm : tg = M
            · exact x7 (by omega)
            · rw [if_neg tm] at y
              omega
        · have no : ∀ v : Int32, ¬ (N + 1 ≤ s ∧ s < M ∧ v = nI M) := fun v z => by omega
          refine ⟨tg, x2, by omega, ⟨fun y => ?_, fun y => ?_⟩, fun y => x6 (by omega), fun y => x7 (by omega)⟩
          · rw [s7] at y
            rw [s8, sb8 s, if_neg (by omega), if_neg (no _)]
            exact x5.1 y
          · rw [s7] at y
            rw [s8, s9, sb8 s, sb9 s, if_neg (by omega), if_neg (no _), if_neg (by omega), if_neg (no _), Rg]
            exact x5.2 y
    · exact Or.inr (fail_of kk rn w1 (fR0_t (fR0_g (fun j hj => d3 j (by omega))) w2))
  · obtain ⟨f1, f2, f3, f4, f5⟩ := bN_of hK a (a := 1) (by decide)
    rw [decide_eq_false t25, if_neg Bool.false_ne_true, f2]
    dsimp only
    rw [if_neg f5]
    dsimp only
    unfold X8_readStep_J475
    rw [need_f n f5]
    refine ⟨_, rfl, Or.inr ?_⟩
    rcases tok with t28 | t | ⟨t24, t15⟩
    · refine ⟨1, _, by omega, fun K => ?_, f3, f4⟩
      rw [X1_read_L32]
      simp only [X1_read_B32, X1_read_J117, X1_read_J129]
      rw [if_neg (show ¬ (700 : Int32) < nI i from fun y => by have := (nI_ltN (a := 700) (by omega) (by omega)).mp y; omega), if_pos a.2.1, sort_C hK a.1, t28, if_pos (show (28 : Int32) = 28 from rfl), h06, if_neg (show ¬ nI (f + 1) ≤ 0 from fun y => by have := (nI_leI (b := 0) (by omega) (by omega)).mp y; omega), f1]
      rfl
    · exact absurd t t25
    · refine fail_of kk (fun K => ?_) f3 f4
      rw [L32_go hK a (by omega) (show 24 < 356 by omega) (show SK b A (tkB b A k) = nI 24 from t24) (by omega), if_pos (by omega), if_pos rfl]
      unfold X1_turnIf X1_turnIf_J24
      rw [if_neg n06, j15, t15, if_neg (pu_ne1 (by omega)), f1] <;> rfl
end IFEND
