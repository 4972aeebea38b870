/-! STEPS ARE READ: an 'if' -/
def brT (n : Nat) (rE : am_M → Int32 → Int32 → Option (Int32 × am_M)) (a1 a2 : Int32) (q3 : Int32 × am_M) : Option am_M := if (40 + a1) < 0 ∨ 80 ≤ (40 + a1).toNatClampNeg then none else (X8_is n (sC q3.2 12 (upd (q3.2 12) (40 + a1).toNatClampNeg q3.1)) 25).bind (fun q5 => if q5 = true then (X8_stepOn n (sC q3.2 12 (upd (q3.2 12) (40 + a1).toNatClampNeg q3.1))).bind (fun q7 => (rE q7 (a2 + 1) a1).bind (fun q8 => if (40 + a1) < 0 ∨ 80 ≤ (40 + a1).toNatClampNeg then none else (X8_readBranches_J62 n rE (sC q8.2 13 (upd (q8.2 13) (40 + a1).toNatClampNeg q8.1))))) else (X8_readBranches_J62 n rE (sC q3.2 12 (upd (q3.2 12) (40 + a1).toNatClampNeg q3.1))))
section IF
variable {n : Nat} {b : Nat → Int32} {A K0 : Nat} {S R : am_M}
theorem gR12 {N q : Nat} {v : Int32} : gR N q R (sC R 12 (upd (R 12) (40 + N) v)) := ⟨fun c h1 h2 => sC_ne (by omega), fun _ _ => rfl, rfl, fun c h j hj => by
  by_cases c12 : c = 12
  · rw [c12]; exact upd_ne (by omega)
  · rw [sC_ne c12], fun _ _ => ⟨rfl, rfl⟩, fun _ _ => rfl⟩
theorem gR13 {N q : Nat} {v : Int32} : gR N q R (sC R 13 (upd (R 13) (40 + N) v)) := ⟨fun c h1 h2 => sC_ne (by omega), fun _ _ => rfl, rfl, fun c h j hj => by
  by_cases c12 : c = 13
  · rw [c12]; exact upd_ne (by omega)
  · rw [sC_ne c12], fun _ _ => ⟨rfl, rfl⟩, fun _ _ => rfl⟩
theorem lF_R {R' : am_M} {s tg : Nat} (x : lF S R s tg) (h12 : R' 12 (40 + s) = R 12 (40 + s)) (h13 : R' 13 (40 + s) = R 13 (40 + s)) : lF S R' s tg := by
  unfold lF at x ⊢
  rw [h12, h13]
  exact x
/-- after a FAULT the reference leaves its 'if' -/
theorem ifbr_f (hn : 2200 < n) (rE : am_M → Int32 → Int32 → Option (Int32 × am_M)) {N : Nat} (hN : N < 40) (a2 x : Int32) (h : ¬ R 0 18 = 0) : (brT n rE (nI N) a2 (x, R)).bind (fun q56 => X8_readStep_J475 n rE q56) = some (sC R 12 (upd (R 12) (40 + N) x)) := by
  have h' : ¬ (sC R 12 (upd (R 12) (40 + N) x)) 0 18 = 0 := h
  unfold brT X8_readBranches_J62 X8_readStep_J475
  dsimp only
  rw [show (40 : Int32) + nI N = nI (40 + N) from nI_add 40 N, if_neg (pu_g (n := 80) (by omega) (by omega)), nI_clamp (by omega), is_no n hn (Or.inl h')]
  dsimp only [Option.bind]
  rw [if_neg Bool.false_ne_true, word_f n h']
  dsimp only
  rw [need_f n h']
theorem j62_f (rE : am_M → Int32 → Int32 → Option (Int32 × am_M)) (h : ¬ R 0 18 = 0) : (X8_readBranches_J62 n rE R).bind (fun q56 => X8_readStep_J475 n rE q56) = some R := by
  unfold X8_readBranches_J62 X8_readStep_J475
  rw [word_f n h]
  dsimp only [Option.bind]
  rw [need_f n h]
/-- after a FAULT the reference reads no STEPS -/
theorem steps_f (hn : 2200 < n) (g : Nat) (h : ¬ R 0 18 = 0) (x y : Int32) : X8_readStepsR n (g + 1) R x y = some (-1, R) := by
  obtain ⟨K, hK⟩ : ∃ K, n = K + 1 := ⟨n - 1, by omega⟩
  simp only [X8_readStepsR]
  unfold X8_readSteps
  have : X8_readSteps_L5 n (X8_readStepsR n g) (K + 1) R x y (-1) (-1) = some (-1, R) := by
    simp only [X8_readSteps_L5, X8_readSteps_B5, X8_readSteps_J97]
    rw [if_neg h, if_pos True.intro]
  rw [← hK] at this
  exact this
theorem step_if (hn : 2200 < n) (hK : KB b A K0) {k z q N f i g : Nat} (hf : f < 4) (hE : SpecB n b A K0 (f + 1)) (hg : 5 ≤ g + (f + 1)) (h : bF b A K0 S R k z q N f) (hi : i ≤ k) (hN : N < 40) (hs : SK b A (tkB b A k) = nI 10) : ∃ R', X8_readStep_J49 n (X8_readStepsR n g) R (nI f) (nI 10) = some R' ∧ (okSt n b A K0 S R k i z q N f R' ∨ failO n K0 S i k R R') := by
  have A7 := hK.1
  have K0A := hK.2.2.1
  have kk := bF_k h
  obtain ⟨g, rfl⟩ : ∃ g', g = g' + 1 := ⟨g - 1, by omega⟩
  obtain ⟨T, S1, R1, c1, c2, c3, r1, a1, gc, gr, s7, s8, s14, s15, s67, s68, s06, r41, r6, r11, r12, r13, ff⟩ := open_both hn hK h hN (show 10 ≤ 10 by omega) hs (X8_readStepsR n (g + 1)) (nI f)
  have b1 := h.2.2.2.2.2.2.1
  have b2 := h.2.2.2.2.2.2.2
  obtain ⟨S2, hS2⟩ : ∃ S2, S2 = sC (sC (sC S1 0 (am_u (S1 0) 6 (nI (f + 1)))) 14 (upd (S1 14) f (nI N))) 15 (upd (S1 15) f (-1)) := ⟨_, rfl⟩
  have s2o : ∀ c, c ≠ 0 → c ≠ 14 → c ≠ 15 → S2 c = S1 c := fun c h0 h1 h2 => by rw [hS2, sC_ne h2, sC_ne h1, sC_ne h0]
  have a2 : at2 b A K0 (k + 1) z q S2 R1 := by rw [hS2]; exact a1
  have ff2 : FF N (fun _ => false) (mkA 10) false (nI (if 10 = 3 ∨ 10 = 4 then 99 else 1)) S2 R1 z q := FF_st ff (fun w hw _ => mkA_3 10 w hw) (by rw [s2o 10 (by omega) (by omega) (by omega)]) (by rw [s2o 11 (by omega) (by omega) (by omega)]) (fun w _ => by rw [s2o 12 (by omega) (by omega) (by omega)]) (fun w _ => by rw [s2o 13 (by omega) (by omega) (by omega)]) rfl rfl (fun _ _ => ⟨rfl, rfl⟩) (fun _ _ => rfl) (Nat.le_refl _) (Nat.le_refl _)
  have pe : PE b A K0 N z q (k + 1) 1 S2 R1 (fun _ => false) (mkA 10) false (nI (if 10 = 3 ∨ 10 = 4 then 99 else 1)) S2 R1 := Or.inl ⟨k + 1, z, q, a2, by omega, by omega, Nat.le_refl _, Nat.le_refl _, Nat.le_refl _, cC_r, cR_r, ff2⟩
  obtain ⟨S3, R3, c4, r4, h3⟩ := ask_op hn hK hN (w := 2) (k3 := 0) (by omega) (by omega) (fl := 1) (Or.inr rfl) (fun w hw => mkA_3 10 w hw) (fun w' _ hd => absurd hd Bool.false_ne_true) rfl pe
  obtain ⟨S4, R4, c5, r5, h4⟩ := word_op hn hK (fun w hw => mkA_3 10 w hw) (i := 23) (by omega) h3
  have C4 : X1_ask n S2 (nI N) 2 1 = some S3 := c4
  have C5 : X1_need S3 23 = some S4 := c5
  have Q4 : X8_readInto n R1 (nI N) 0 1 = some R3 := r4
  have rn : run n S i 1 S4 := fun K => by
    rw [L32_go hK h.1 (by omega) (show 10 < 356 by omega) hs (by omega), if_neg (by omega)]
    have o : X1_oneStep n S (nI 10) = some S4 := by
      unfold X1_oneStep X1_oneStep_J32
      rw [h.2.1, if_neg (show ¬ (40 : Int32) ≤ nI N from fun y => by have := (nI_leI (a := 40) (by omega) (by omega)).mp y; omega), if_pos (show nI 10 = (10 : Int32) from rfl), h.2.2.2.1, if_pos (show nI f < 4 from (nI_ltN (b := 4) (by omega) (by omega)).mpr hf), c1]
      dsimp only [Option.bind]
      rw [c2]
      dsimp only
      rw [c3, if_pos (show nI 10 = (10 : Int32) from rfl)]
      unfold X1_openIf
      rw [s06, nI_1, jput_nI hf (by omega), jput_nI hf (by omega)]
      rw [show (sC (sC (sC S1 0 (am_u (S1 0) 6 (nI (f + 1)))) 14 (upd (S1 14) f (nI N))) 15 (upd (S1 15) f (-1))) = S2 from hS2.symm, C4]
      dsimp only [Option.bind]
      rw [C5]
    rw [o] <;> rfl
  have rbr : X8_readStep_J49 n (X8_readStepsR n (g + 1)) R (nI f) (nI 10) = ((X8_readStepsR n (g + 1) R4 (nI (f + 1)) (nI N)).bind (fun q3 => brT n (X8_readStepsR n (g + 1)) (nI N) (nI f) q3)).bind (fun q56 => X8_readStep_J475 n (X8_readStepsR n (g + 1)) q56) := by
    rw [r1]
    show (X8_readBranches n (X8_readStepsR n (g + 1)) R1 (nI N) (nI f)).bind (fun q56 => X8_readStep_J475 n (X8_readStepsR n (g + 1)) q56) = _
    unfold X8_readBranches
    rw [Q4]
    dsimp only [Option.bind]
    rw [r5]
    dsimp only
    show ((X8_readStepsR n (g + 1) R4 (nI f + 1) (nI N)).bind (fun q3 => brT n (X8_readStepsR n (g + 1)) (nI N) (nI f) q3)).bind (fun q56 => X8_readStep_J475 n (X8_readStepsR n (g + 1)) q56) = _
    rw [nI_1]
    rfl
  rw [rbr]
  rcases h4 with ⟨k4, z4, q4, a4, d1, d2, d3, d4, d5, cc, cr, ff4⟩ | ⟨d1, d2⟩
  · have s4o : ∀ c, c ≠ 0 → c ≠ 1 → c ≠ 6 → c ≠ 10 → c ≠ 11 → c ≠ 12 → c ≠ 13 → c ≠ 14 → c ≠ 15 → c ≠ 16 → S4 c = S1 c := fun c h0 h1 h2 h3 h4 h5 h6 h7 h8 h9 => (cc.1 c h0 h1 h2 h3 h4 h5 h6 h9).trans (s2o c h0 h7 h8)
    have k47 : S4 7 = upd (S 7) N (nI 10) := (s4o 7 (by omega) (by omega) (by omega) (by omega) (by omega) (by omega) (by omega) (by omega) (by omega) (by omega)).trans s7
    have s414 : S4 14 f = nI N := by
      rw [cc.1 14 (by omega) (by omega) (by omega) (by omega) (by omega) (by omega) (by omega) (by omega), hS2]
      exact upd_eq
    have s415 : S4 15 f = -1 := by
      rw [cc.1 15 (by omega) (by omega) (by omega) (by omega) (by omega) (by omega) (by omega) (by omega), hS2]
      exact upd_eq
    have g12 : gC N z f S1 S2 := ⟨fun c q1 q2 j hj => by rw [s2o c (by omega) (by omega) (by omega)], fun j hj => by rw [s2o 12 (by omega) (by omega) (by omega)], fun j hj => by rw [s2o 13 (by omega) (by omega) (by omega)], fun j hj => by rw [hS2]; exact ⟨upd_ne (by omega), upd_ne (by omega)⟩⟩
    have gc4 : gC N z f S S4 := gC_t (Nat.le_refl _) (Nat.le_refl _) (Nat.le_refl _) gc (gC_t (Nat.le_refl _) (Nat.le_refl _) (Nat.le_refl _) g12 (cC_g cc))
    have gr4 : gR N q R R4 := gR_t (Nat.le_refl _) (Nat.le_refl _) gr (cR_g cr)
    have bf4 : bF b A K0 S4 R4 k4 z4 q4 (N + 1) (f + 1) := by
      refine ⟨a4, ?_, ?_, ?_, by omega, ?_, by omega, by omega⟩
      · rw [cc.2.2.1 7 (by omega), s2o 6 (by omega) (by omega) (by omega)]
        exact s67
      · rw [cc.2.2.1 8 (by omega), s2o 6 (by omega) (by omega) (by omega), s68]
        show nI _ = nI (anyN (anS S4) N + _)
        rw [anyN_congr (kd := anS S4) (kd' := anS S) N (fun s hs => by
          show (S4 7 s).toNatClampNeg = (S 7 s).toNatClampNeg
          rw [k47, upd_ne (by omega)])]
        have e : anS S4 N = 10 := by
          show (S4 7 N).toNatClampNeg = 10
          rw [k47, upd_eq] <;> rfl
        rw [e]
      · rw [cc.2.1 6 (by omega) (by omega) (by omega) (by omega) (by omega), hS2] <;> rfl
      · rw [cr.1 4 (by omega) (by omega) (by omega) (by omega) (by omega) (by omega)]
        exact r41
    have sF4 : sF S4 R4 N z4 q4 := ⟨10, _, by omega, by rw [k47, upd_eq], by rw [cr.1 6 (by omega) (by omega) (by omega) (by omega) (by omega) (by omega)]; exact r6, (by
      obtain ⟨x1, x2⟩ := ff4
      refine ⟨fun w hw => ?_, x2⟩
      have := x1 w hw
      have hd : ((w == 2) || false) = hasA 10 w := by
        rcases (show w = 0 ∨ w = 1 ∨ w = 2 by omega) with rfl | rfl | rfl <;> decide
      rw [← hd]
      exact this : FF N (hasA 10) (mkA 10) (decide (10 ≤ 4)) (nI (if 10 = 3 ∨ 10 = 4 then 99 else 1)) S4 R4 z4 q4)⟩
    have b11 : bh R4 N = -1 := by
      show R4 11 (40 + N) = -1
      rw [cr.1 11 (by omega) (by omega) (by omega) (by omega) (by omega) (by omega)]
      exact r11
    have b13 : R4 13 (40 + N) = -1 := by
      rw [cr.1 13 (by omega) (by omega) (by omega) (by omega) (by omega) (by omega)]
      exact r13
    have fin : ∀ (t : Nat) (S8 R9 : am_M) (k8 z8 q8 M N2 : Nat), run n S i t S8 → bF b A K0 S8 R9 k8 z8 q8 N2 (f + 1) → k + t ≤ k8 → N < M → M ≤ N2 → S8 14 f = nI N → ((S8 15 f = -1 ∧ M = N2) ∨ S8 15 f = nI M) → (SK b A (tkB b A k8) = 28 ∨ SK b A (tkB b A k8) = 25 ∨ (SK b A (tkB b A k8) = 24 ∧ S8 15 f = nI M)) → (R9 12 (40 + N) = if M = N + 1 then -1 else nI (N + 1)) → (R9 13 (40 + N) = if M = N2 then -1 else nI M) → S8 7 N = 10 → sF S8 R9 N z8 q8 → (∀ s, N < s → s < N2 → sF S8 R9 s z8 q8 ∧ ∃ tg e, s < tg ∧ tg ≤ e ∧ ((e = M ∧ s < M) ∨ (e = N2 ∧ M ≤ s)) ∧ lF S8 R9 s tg ∧ (tg < e → rch (bh R9) (4 - f) s (nI tg)) ∧ (tg = e → pch (bh R9) (4 - f) s N)) → gC N z f S S8 → gR N q R R9 → bh R9 N = -1 → z ≤ z8 → q ≤ q8 → ∃ R', (X8_readBranches_J62 n (X8_readStepsR n (g + 1)) R9).bind (fun q56 => X8_readStep_J475 n (X8_readStepsR n (g + 1)) q56) = some R' ∧ (okSt n b A K0 S R k i z q N f R' ∨ failO n K0 S i k R R') := fun t S8 R9 k8 z8 q8 M N2 u1 u2 u3 u4 u5 u6 u7 u8 u9 u10 u11 u12 u13 u14 u15 u16 u17 u18 => by
      obtain ⟨R', e1, e2⟩ := if_end hn hK (X8_readStepsR n (g + 1)) hf u2 (i := i + t) (by omega) u4 u5 u6 u7 u8 u9 u10 u11 u12 u13
      refine ⟨R', e1, ?_⟩
      rcases e2 with ⟨t', S', k', g', v1, v2, v3, v4, v5, v6, v7, v8, v9, v10⟩ | e2
      · exact Or.inl ⟨t + t', S', k', z8, q8, N2, run_t u1 v1, v2, by omega, by omega, by omega, u17, u18, gC_t (Nat.le_refl _) u17 (Nat.le_refl _) u14 v5, gR_t (Nat.le_refl _) u18 u15 (by rw [v6]; exact gR_g v7), v8, v9, by rw [v6]; exact u16, v10⟩
      · exact Or.inr (fail_t u1 u3 (gR_0 u15) e2)
    obtain ⟨x4, R5, w1, w2⟩ := hE (g + 1) S4 R4 k4 (i + 1) z4 q4 (N + 1) N hg bf4 (by omega) (fun _ => by omega)
    rw [if_neg (by omega)] at w1
    rw [w1]
    dsimp only [Option.bind]
    rcases w2 with ⟨t5, S5, k5, z5, q5, M, y1, y2, y3, y4, y5, y6, y7, y8, y9, y10, y11⟩ | w2
    · obtain ⟨R6, hR6⟩ : ∃ R6, R6 = sC R5 12 (upd (R5 12) (40 + N) x4) := ⟨_, rfl⟩
      have bf6 : bF b A K0 S5 R6 k5 z5 q5 M (f + 1) := by rw [hR6]; exact y2
      have g56 : gR N q5 R5 R6 := by rw [hR6]; exact gR12
      have gc5 : gC N z f S S5 := gC_t (by omega) d4 (by omega) gc4 y7
      have gr6 : gR N q R R6 := gR_t (Nat.le_refl _) (by omega) (gR_t (by omega) d5 gr4 y8) g56
      have k57 : S5 7 N = 10 := by
        rw [y7.1 7 (by omega) (by omega) N (by omega), k47, upd_eq] <;> rfl
      have s514 : S5 14 f = nI N := by rw [(y7.2.2.2 f (by omega)).1, s414]
      have s515 : S5 15 f = -1 := by rw [(y7.2.2.2 f (by omega)).2, s415]
      have sF6 : ∀ s, sF S5 R5 s z5 q5 → sF S5 R6 s z5 q5 := fun s x => by
        rw [hR6]
        exact sF_st x rfl rfl rfl (fun _ _ => rfl) (fun _ _ => rfl) rfl rfl rfl (fun _ _ => ⟨rfl, rfl⟩) (fun _ _ => rfl) (Nat.le_refl _) (Nat.le_refl _)
      have sF6N : sF S5 R6 N z5 q5 := sF6 N (sF_g sF4 (by omega) y7 y8 y5 y6)
      have b6 : bh R6 = bh R5 := by rw [hR6] <;> rfl
      have b6N : bh R6 N = -1 := by rw [b6, bh_g y8 N (by omega), b11]
      have r612 : R6 12 (40 + N) = if M = N + 1 then -1 else nI (N + 1) := by
        rw [hR6]
        show upd (R5 12) (40 + N) x4 (40 + N) = _
        rw [upd_eq, y10]
        by_cases m : N + 1 = M
        · rw [if_pos m, if_pos m.symm]
        · rw [if_neg m, if_neg (fun z => m z.symm)]
      have r613 : R6 13 (40 + N) = -1 := by
        rw [hR6]
        show R5 13 (40 + N) = -1
        rw [y8.2.2.2.1 13 (by omega) (40 + N) (by omega), b13]
      have fac : ∀ s, N < s → s < M → sF S5 R6 s z5 q5 ∧ ∃ tg, s < tg ∧ tg ≤ M ∧ lF S5 R6 s tg ∧ (tg < M → rch (bh R6) (4 - f) s (nI tg)) ∧ (tg = M → pch (bh R6) (4 - f) s N) := fun s h1 h2 => by
        obtain ⟨x1, tg, x2, x3, x4', x5, x6⟩ := y11 s (by omega) h2
        rw [if_neg (show ¬ f + 1 = 0 by omega)] at x6
        rw [show 5 - (f + 1) = 4 - f by omega] at x5 x6
        rw [b6]
        exact ⟨sF6 s x1, tg, x2, x3, lF_R x4' (by rw [hR6]; exact upd_ne (by omega)) (by rw [hR6] <;> rfl), x5, x6⟩
      have k5K := bF_k y2
      have ht5 : k + (1 + t5) ≤ k5 := by omega
      have run5 : run n S i (1 + t5) S5 := run_t rn y1
      unfold brT
      dsimp only
      rw [show (40 : Int32) + nI N = nI (40 + N) from nI_add 40 N, if_neg (pu_g (n := 80) (by omega) (by omega)), nI_clamp (by omega), ← hR6, is_eq n hn hK.1 hK.2.1 bf6.1.2.2.2.1 bf6.1.2.2.2.2.1 (show 24 < 26 by omega)]
      dsimp only [Option.bind]
      by_cases t24 : SK b A (tkB b A k5) = nI 24
      · rw [decide_eq_true t24, if_pos rfl]
        have a7 : at2 b A K0 k5 z5 q5 (sC S5 15 (upd (S5 15) f (nI M))) R6 := bf6.1
        obtain ⟨e1, g7, e2, e3, e4⟩ := at2_adv hn hK a7 (at2_end hK bf6.1 (by rw [t24]; decide))
        obtain ⟨S6, hS6⟩ : ∃ S6, S6 = sC (sC S5 15 (upd (S5 15) f (nI M))) 1 (am_u ((sC S5 15 (upd (S5 15) f (nI M))) 1) 6 (nI (k5 + 1))) := ⟨_, rfl⟩
        rw [← hS6] at e4
        have s6o : ∀ c, c ≠ 1 → c ≠ 15 → S6 c = S5 c := fun c h1 h2 => by rw [hS6, sC_ne h1, sC_ne h2]
        obtain ⟨R7, hR7⟩ : ∃ R7, R7 = sC R6 0 g7 := ⟨_, rfl⟩
        rw [← hR7] at e2 e4
        have g67 : gR M q5 R6 R7 := by rw [hR7]; exact gR_g (fun j hj => e3 j (by omega))
        have gc56 : gC M z5 f S5 S6 := ⟨fun c q1 q2 j hj => by rw [s6o c (by omega) (by omega)], fun j hj => by rw [s6o 12 (by omega) (by omega)], fun j hj => by rw [s6o 13 (by omega) (by omega)], fun j hj => ⟨by rw [s6o 14 (by omega) (by omega)], by rw [hS6]; exact upd_ne (by omega)⟩⟩
        have bf7 : bF b A K0 S6 R7 (k5 + 1) z5 q5 M (f + 1) := by
          obtain ⟨p1, p2, p3, p4, p5, p6, p7, p8⟩ := bf6
          refine ⟨e4, by rw [s6o 6 (by omega) (by omega)]; exact p2, ?_, by rw [s6o 0 (by omega) (by omega)]; exact p4, p5, by rw [hR7]; exact p6, by omega, by omega⟩
          rw [s6o 6 (by omega) (by omega), p3]
          unfold anS
          rw [s6o 7 (by omega) (by omega)]
        have rn6 : run n S5 (i + (1 + t5)) 1 S6 := fun K => by
          rw [L32_go hK bf6.1 (by omega) (show 24 < 356 by omega) t24 (by omega), if_pos (by omega), if_pos rfl]
          have tu : X1_turnIf S5 = some S6 := by
            unfold X1_turnIf
            rw [if_neg (show ¬ S5 0 6 = 0 by rw [bf6.2.2.2.1]; exact fun z => by have := (nI_eq (b := 0) (by omega) (by omega)).mp z; omega), bf6.2.2.2.1, sub1, jat_nI hf (by omega), s515, if_pos rfl, jput_nI hf (by omega), bf6.2.1, e1]
            dsimp only [Option.bind]
            rw [put_1, ← hS6]
          rw [tu] <;> rfl
        rw [e2]
        dsimp only
        rw [nI_1]
        obtain ⟨x8, R8, w3, w4⟩ := hE (g + 1) S6 R7 (k5 + 1) (i + (1 + t5) + 1) z5 q5 M N hg bf7 (by omega) (fun _ => by omega)
        rw [if_neg (by omega)] at w3
        rw [w3]
        dsimp only
        rw [if_neg (pu_gn (n := 80) (by omega) (by omega))]
        have run6 : run n S i (1 + t5 + 1) S6 := run_t run5 rn6
        have gc6 : gC N z f S S6 := gC_t (by omega) (by omega) (Nat.le_refl _) gc5 gc56
        have gr7 : gR N q R R7 := gR_t (by omega) (by omega) gr6 g67
        rcases w4 with ⟨t8, S8, k8, z8, q8, N2, u1, u2, u3, u4, u5, u6, u7, u8, u9, u10, u11⟩ | w4
        · have N240 := u2.2.2.2.2.1
          obtain ⟨R9, hR9⟩ : ∃ R9, R9 = sC R8 13 (upd (R8 13) (40 + N) x8) := ⟨_, rfl⟩
          rw [← hR9]
          have g89 : gR N q8 R8 R9 := by rw [hR9]; exact gR13
          have b9 : bh R9 = bh R8 := by rw [hR9] <;> rfl
          have b98 : ∀ x, x < M → bh R9 x = bh R6 x := fun x hx => by
            rw [b9, bh_g u8 x hx, hR7] <;> rfl
          have sF9 : ∀ s, sF S8 R8 s z8 q8 → sF S8 R9 s z8 q8 := fun s x => by
            rw [hR9]
            exact sF_st x rfl rfl rfl (fun _ _ => rfl) (fun _ _ => rfl) rfl rfl rfl (fun _ _ => ⟨rfl, rfl⟩) (fun _ _ => rfl) (Nat.le_refl _) (Nat.le_refl _)
          have g59 : gC M z5 f S5 S8 := gC_t (Nat.le_refl _) (Nat.le_refl _) (by omega) gc56 u7
          have g68 : gR M q5 R6 R8 := gR_t (Nat.le_refl _) (Nat.le_refl _) g67 u8
          have bf9 : bF b A K0 S8 R9 k8 z8 q8 N2 (f + 1) := by rw [hR9]; exact u2
          refine fin (1 + t5 + 1 + t8) S8 R9 k8 z8 q8 M N2 (run_t run6 u1) bf9 (by omega) (by omega) u3 ?_ (Or.inr ?_) ?_ ?_ ?_ ?_ (sF9 N (sF_g sF6N (by omega) g59 g68 u5 u6)) (fun s h1 h2 => ?_) (gC_t (by omega) (by omega) (by omega) gc6 u7) (gR_t (Nat.le_refl _) (by omega) (gR_t (by omega) (by omega) gr7 u8) g89) (by rw [b98 N (by omega), b6N]) (by omega) (by omega)
          · rw [(u7.2.2.2 f (by omega)).1, s6o 14 (by omega) (by omega), s514]
          · rw [(u7.2.2.2 f (by omega)).2, hS6]
            exact upd_eq
          · rcases u9 with p | ⟨-, p | p⟩
            · exact Or.inl p
            · refine Or.inr (Or.inr ⟨p, ?_⟩)
              rw [(u7.2.2.2 f (by omega)).2, hS6]
              exact upd_eq
            · exact Or.inr (Or.inl p)
          · rw [hR9]
            show R8 12 (40 + N) = _
            rw [g68.2.2.2.1 12 (by omega) (40 + N) (by omega), r612]
          · rw [hR9]
            show upd (R8 13) (40 + N) x8 (40 + N) = _
            rw [upd_eq, u10]
          · rw [g59.1 7 (by omega) (by omega) N (by omega), k57]
          · rcases Nat.lt_or_ge s M with sm | sm
            · obtain ⟨x1, tg, x2, x3, x4', x5, x6⟩ := fac s h1 sm
              have l9 : lF S8 R9 s tg := by
                refine lF_R (lF_g x4' sm g59 g68) ?_ ?_
                · rw [hR9] <;> rfl
                · rw [hR9]; exact upd_ne (by omega)
              exact ⟨sF9 s (sF_g x1 sm g59 g68 u5 u6), tg, M, x2, x3, Or.inl ⟨rfl, sm⟩, l9, fun y => rch_st (pu_ne1 (by omega)) _ s (by omega) (fun x hx _ => b98 x (by omega)) (x5 y), fun y => pch_st _ s (by omega) (fun x hx _ => b98 x (by omega)) (x6 y)⟩
            · obtain ⟨x1, tg, x2, x3, x4', x5, x6⟩ := u11 s sm h2
              rw [if_neg (show ¬ f + 1 = 0 by omega)] at x6
              rw [show 5 - (f + 1) = 4 - f by omega] at x5 x6
              rw [b9]
              exact ⟨sF9 s x1, tg, N2, x2, x3, Or.inr ⟨rfl, sm⟩, lF_R x4' (by rw [hR9] <;> rfl) (by rw [hR9]; exact upd_ne (by omega)), x5, x6⟩
        · have f8 : ¬ R8 0 18 = 0 := by
            obtain ⟨t', S', o1, o2, o3, o4⟩ := w4
            rw [o3.2.1]
            exact o3.1
          refine ⟨_, j62_f (R := sC R8 13 (upd (R8 13) (40 + N) x8)) (X8_readStepsR n (g + 1)) f8, Or.inr (fail_t (k1 := k5 + 1) run6 (by omega) (gR_0 gr7) ?_)⟩
          obtain ⟨t', S', o1, o2, o3, o4⟩ := w4
          exact ⟨t', S', o1, o2, ⟨o3.1, o3.2.1, o3.2.2⟩, fR0_t o4 (gR_0 (gR13 (q := 0)))⟩
      · rw [decide_eq_false t24, if_neg Bool.false_ne_true]
        refine fin (1 + t5) S5 R6 k5 z5 q5 M M run5 bf6 ht5 (by omega) (Nat.le_refl _) s514 (Or.inl ⟨s515, rfl⟩) ?_ r612 (by rw [if_pos rfl]; exact r613) k57 sF6N (fun s h1 h2 => ?_) gc5 gr6 b6N (by omega) (by omega)
        · rcases y9 with p | ⟨-, p | p⟩
          · exact Or.inl p
          · exact absurd p t24
          · exact Or.inr (Or.inl p)
        · obtain ⟨x1, tg, x2, x3, x4', x5, x6⟩ := fac s h1 h2
          exact ⟨x1, tg, M, x2, x3, Or.inl ⟨rfl, h2⟩, x4', x5, x6⟩
    · have f5 : ¬ R5 0 18 = 0 := by
        obtain ⟨t', S', o1, o2, o3, o4⟩ := w2
        rw [o3.2.1]
        exact o3.1
      have := ifbr_f hn (X8_readStepsR n (g + 1)) hN (nI f) x4 f5
      refine ⟨_, this, Or.inr (fail_t rn (by omega) (gR_0 gr4) ?_)⟩
      obtain ⟨t', S', o1, o2, o3, o4⟩ := w2
      exact ⟨t', S', o1, o2, ⟨o3.1, o3.2.1, o3.2.2⟩, fR0_t o4 (gR_0 (gR12 (q := 0)))⟩
  · have f4 : ¬ R4 0 18 = 0 := by rw [d1.2.1]; exact d1.1
    rw [steps_f hn g f4]
    dsimp only [Option.bind]
    have := ifbr_f hn (X8_readStepsR n (g + 1)) hN (nI f) (-1) f4
    refine ⟨_, this, Or.inr (fail_of kk rn ⟨d1.1, d1.2.1, d1.2.2⟩ (fR0_t (gR_0 gr) (fR0_t d2 (gR_0 (gR12 (N := N) (q := 0))))))⟩
end IF
