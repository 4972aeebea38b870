/-! STEPS ARE READ: one that is no 'if' -/
section STEP
variable {n : Nat} {b : Nat → Int32} {A K0 : Nat} {S R : am_M}
/-- both open a STEP and go on -/
theorem open_both (hn : 2200 < n) (hK : KB b A K0) {k z q N f kd : Nat} (h : bF b A K0 S R k z q N f) (hN : N < 40) (hkd : kd ≤ 10) (hs : SK b A (tkB b A k) = nI kd) (rE : am_M → Int32 → Int32 → Option (Int32 × am_M)) (l1 : Int32) : ∃ T S' R', X3_open n (am_sub S 6) (nI kd) = some (nI N, T) ∧ X5_advance (am_sub (am_put S 6 8 T) 1) = some (sC (am_sub (am_put S 6 8 T) 1) 0 (S' 1)) ∧ am_put (am_put S 6 8 T) 1 5 (sC (am_sub (am_put S 6 8 T) 1) 0 (S' 1)) = S' ∧ X8_readStep_J49 n rE R l1 (nI kd) = rSw n rE R' l1 (nI kd) (nI N) ∧ at2 b A K0 (k + 1) z q S' R' ∧ gC N z f S S' ∧ gR N q R R' ∧ S' 7 = upd (S 7) N (nI kd) ∧ S' 8 N = nI (N + 1) ∧ S' 14 = S 14 ∧ S' 15 = S 15 ∧ S' 6 7 = nI (N + 1) ∧ S' 6 8 = nI (anyN (anS S) N + if kd = 4 then 1 else 0) ∧ S' 0 6 = nI f ∧ R' 4 1 = nI (N + 1) ∧ R' 6 (40 + N) = nI kd ∧ R' 11 (40 + N) = -1 ∧ R' 12 (40 + N) = -1 ∧ R' 13 (40 + N) = -1 ∧ FF N (fun _ => false) (mkA kd) false (nI (if kd = 3 ∨ kd = 4 then 99 else 1)) S' R' z q := by
  obtain ⟨a, h67, h68, h06, N40, h41, b1, b2⟩ := h
  obtain ⟨T, S1, c1, c2, c3, c4, c5, c6, c7, c8, c9, c10, c11, c12, c13⟩ := opn_C hn h67 hN h68 hkd
  obtain ⟨Rb, r1, r2, r3, r4, r5, r6, r7, r8, r9, r10⟩ := opn_R hn a.2.2.2.2.1 h41 hN rE l1 hkd
  have x0 : S1 0 = S 0 := c3 0 (by omega)
  have x1 : S1 1 = S 1 := c3 1 (by omega)
  have y0 : Rb 0 = R 0 := r2 0 (by omega)
  have a1 : at2 b A K0 k z q S1 Rb := by
    obtain ⟨t1, t2, t3, t4, t5, t6, t7⟩ := a
    refine ⟨?_, by rw [x0]; exact t2, by rw [c13]; exact t3, ?_, by rw [y0]; exact t5, by rw [y0]; exact t6, by rw [x0]; exact t7⟩
    · unfold tkC at t1 ⊢
      rw [x1, c3 3 (by omega), c3 4 (by omega), c3 5 (by omega)]
      exact t1
    · unfold tkR rB8 at t4 ⊢
      rw [y0, r2 3 (by omega)]
      exact t4
  obtain ⟨d1, g, d2, d3, d4⟩ := at2_adv hn hK a1 (at2_end hK a (by rw [hs]; exact fun z => by have := (nI_eq (b := 28) (by omega) (by omega)).mp z; omega))
  have z11 : ∀ j, j < 40 + N → j ≠ 40 + N := fun j hj => by omega
  refine ⟨T, sC S1 1 (am_u (S1 1) 6 (nI (k + 1))), sC Rb 0 g, c1, ?_, ?_, ?_, d4, ⟨fun c h1 h2 j hj => ?_, fun j hj => c10 j (by omega), fun i hi => ?_, fun j hj => ⟨?_, ?_⟩⟩, ⟨fun c h1 h2 => ?_, fun j hj => ?_, ?_, fun c hc j hj => ?_, fun j hj => r10 j (by omega), fun i hi => ?_⟩, c4, ?_, ?_, ?_, c11, c12, ?_, ?_, ?_, ?_, ?_, ?_, ?_⟩
  · rw [← c2]
    exact d1
  · rw [← c2]
    exact put_1
  · rw [r1, d2] <;> rfl
  · rw [sC_ne (show c ≠ 1 by omega)]
    rcases (show c = 7 ∨ c = 8 ∨ c = 9 ∨ c = 10 ∨ c = 11 by omega) with rfl | rfl | rfl | rfl | rfl
    · rw [c4, upd_ne (by omega)]
    · rw [c5, upd_ne (by omega)]
    · rw [c6, upd_ne (by omega)]
    · rw [c7, upd_ne (by omega)]
    · rw [c8, upd_ne (by omega)]
  · show S1 13 i = _
    rw [c3 13 (by omega)]
  · show S1 14 j = _
    rw [c3 14 (by omega)]
  · show S1 15 j = _
    rw [c3 15 (by omega)]
  · rw [sC_ne h1, r2 c (by omega)]
  · show g j = _
    rw [d3 j (by omega), y0]
  · show Rb 4 0 = _
    rw [r3, upd_ne (by omega)]
  · have : (sC Rb 0 g) c j = Rb c j := by rw [sC_ne (by omega)]
    rw [this]
    rcases (show c = 6 ∨ c = 9 ∨ c = 10 ∨ c = 11 ∨ c = 12 ∨ c = 13 by omega) with rfl | rfl | rfl | rfl | rfl | rfl
    · rw [r4, upd_ne (by omega)]
    · rw [r5, upd_ne (by omega)]
    · rw [r6, upd_ne (by omega)]
    · rw [r7, upd_ne (by omega)]
    · rw [r8, upd_ne (by omega)]
    · rw [r9, upd_ne (by omega)]
  · show Rb 5 i = _
    rw [r2 5 (by omega)]
  · show S1 8 N = _
    rw [c5, upd_eq]
  · show S1 14 = _
    exact c3 14 (by omega)
  · show S1 15 = _
    exact c3 15 (by omega)
  · show S1 0 6 = _
    rw [x0]
    exact h06
  · show Rb 4 1 = _
    rw [r3, upd_eq]
  · show Rb 6 _ = _
    rw [r4, upd_eq]
  · show Rb 11 _ = _
    rw [r7, upd_eq]
  · show Rb 12 _ = _
    rw [r8, upd_eq]
  · show Rb 13 _ = _
    rw [r9, upd_eq]
  · refine ⟨fun w hw => ?_, ⟨0, by omega, ?_, ?_⟩, ?_⟩
    · rw [if_neg Bool.false_ne_true]
      exact c9 w hw
    · show S1 10 N = _
      rw [c7, upd_eq] <;> rfl
    · show Rb 9 _ = _
      rw [r5, upd_eq] <;> rfl
    · show Rb 10 _ = _
      rw [r6, upd_eq]
theorem bF_k {k z q N f : Nat} (h : bF b A K0 S R k z q N f) : k ≤ K0 := h.1.1.2.2.1
/-- both find what can't stand -/
theorem step_no (hn : 2200 < n) (hK : KB b A K0) {k z q N f i : Nat} (h : bF b A K0 S R k z q N f) (hi : i ≤ k) {j : Nat} (hj : j < 356) (hs : SK b A (tkB b A k) = nI j) (j28 : j ≠ 28) (j10 : 10 < j) (hf : f ≠ 0 → j ≠ 24 ∧ j ≠ 25) : run n S i 1 (sC S 0 (am_u (am_u (S 0) 2 1) 3 (nI (tkB b A k)))) := by
  have A7 := hK.1
  have K0A := hK.2.2.1
  have kk := bF_k h
  obtain ⟨f1, f2, f3, f4, f5⟩ := bN_of hK h.1 (a := 1) (by decide)
  have h06 := h.2.2.2.1
  intro K
  rw [L32_go hK h.1 (by omega) hj hs j28, if_pos j10]
  by_cases q24 : j = 24
  · have f0 : f = 0 := by
      rcases Nat.eq_zero_or_pos f with y | y
      · exact y
      · exact absurd q24 (hf (by omega)).1
    rw [f0] at h06
    rw [if_pos q24]
    unfold X1_turnIf X1_turnIf_J24
    rw [if_pos (show S 0 6 = 0 from h06), f1] <;> rfl
  · rw [if_neg q24]
    by_cases q25 : j = 25
    · have f0 : f = 0 := by
        rcases Nat.eq_zero_or_pos f with y | y
        · exact y
        · exact absurd q25 (hf (by omega)).2
      rw [f0] at h06
      rw [if_pos q25]
      unfold X1_closeIf
      rw [if_pos (show S 0 6 = 0 from h06), f1] <;> rfl
    · rw [if_neg q25, f1] <;> rfl
theorem nI_clampI {a : Nat} (h : a < 2 ^ 31) : (nI a).toNatClampNeg = a := nI_clamp h
/-- a STEP that is no 'if' -/
theorem step_one (hn : 2200 < n) (hK : KB b A K0) {k z q N f i kd : Nat} (h : bF b A K0 S R k z q N f) (hi : i ≤ k) (hN : N < 40) (hkd : kd ≤ 9) (hs : SK b A (tkB b A k) = nI kd) (rE : am_M → Int32 → Int32 → Option (Int32 × am_M)) (l1 : Int32) : ∃ R', X8_readStep_J49 n rE R l1 (nI kd) = some R' ∧ (okSt n b A K0 S R k i z q N f R' ∨ failO n K0 S i k R R') := by
  have A7 := hK.1
  have K0A := hK.2.2.1
  have kk := bF_k h
  obtain ⟨T, S1, R1, c1, c2, c3, r1, a1, gc, gr, s7, s8, s14, s15, s67, s68, s06, r41, r6, r11, r12, r13, ff⟩ := open_both hn hK h hN (show kd ≤ 10 by omega) hs rE l1
  have b1 := h.2.2.2.2.2.2.1
  have b2 := h.2.2.2.2.2.2.2
  have pe : PE b A K0 N z q (k + 1) 1 S1 R1 (fun _ => false) (mkA kd) false (nI (if kd = 3 ∨ kd = 4 then 99 else 1)) S1 R1 := Or.inl ⟨k + 1, z, q, a1, by omega, by omega, Nat.le_refl _, Nat.le_refl _, Nat.le_refl _, cC_r, cR_r, ff⟩
  obtain ⟨S2, R2, e1, e2, e3⟩ := step_simple (rE := rE) (l1 := l1) hn hK hN hkd pe
  have rn : run n S i 1 S2 := fun K => by
    rw [L32_go hK h.1 (by omega) (show kd < 356 by omega) hs (by omega), if_neg (by omega)]
    have o : X1_oneStep n S (nI kd) = some S2 := by
      unfold X1_oneStep X1_oneStep_J32
      rw [h.2.1, if_neg (show ¬ (40 : Int32) ≤ nI N from fun y => by have := (nI_leI (a := 40) (by omega) (by omega)).mp y; omega), if_neg (show ¬ nI kd = (10 : Int32) from fun y => by have := (nI_eq (b := 10) (by omega) (by omega)).mp y; omega), c1]
      dsimp only [Option.bind]
      rw [c2]
      dsimp only
      rw [c3, if_neg (show ¬ nI kd = (10 : Int32) from fun y => by have := (nI_eq (b := 10) (by omega) (by omega)).mp y; omega)]
      exact e1
    rw [o] <;> rfl
  refine ⟨R2, r1.trans e2, ?_⟩
  rcases e3 with ⟨k2, z2, q2, a2, d1, d2, d3, d4, d5, cc, cr, ff2⟩ | ⟨d1, d2⟩
  · have x7 : S2 7 = S1 7 := cc.1 7 (by omega) (by omega) (by omega) (by omega) (by omega) (by omega) (by omega) (by omega)
    have x8 : S2 8 = S1 8 := cc.1 8 (by omega) (by omega) (by omega) (by omega) (by omega) (by omega) (by omega) (by omega)
    have k7 : S2 7 N = nI kd := by rw [x7, s7, upd_eq]
    refine Or.inl ⟨1, S2, k2, z2, q2, N + 1, rn, ⟨a2, ?_, ?_, ?_, by omega, ?_, by omega, by omega⟩, by omega, by omega, by omega, d4, d5, gC_t (Nat.le_refl _) (Nat.le_refl _) (Nat.le_refl _) gc (cC_g cc), gR_t (Nat.le_refl _) (Nat.le_refl _) gr (cR_g cr), ⟨kd, _, by omega, k7, ?_, ff2⟩, ⟨fun _ => ?_, fun z10 => ?_⟩, ?_, fun s h1 h2 => by omega⟩
    · rw [cc.2.2.1 7 (by omega)]
      exact s67
    · rw [cc.2.2.1 8 (by omega), s68]
      show nI _ = nI (anyN (anS S2) N + _)
      rw [anyN_congr (kd := anS S2) (kd' := anS S) N (fun s hs => by
        show (S2 7 s).toNatClampNeg = (S 7 s).toNatClampNeg
        rw [x7, s7, upd_ne (by omega)])]
      have e : anS S2 N = kd := by
        show (S2 7 N).toNatClampNeg = kd
        rw [k7]
        exact nI_clamp (by omega)
      rw [e]
    · rw [cc.2.1 6 (by omega) (by omega) (by omega) (by omega) (by omega)]
      exact s06
    · rw [cr.1 4 (by omega) (by omega) (by omega) (by omega) (by omega) (by omega)]
      exact r41
    · rw [cr.1 6 (by omega) (by omega) (by omega) (by omega) (by omega) (by omega)]
      exact r6
    · rw [x8]
      exact s8
    · rw [k7] at z10
      have := (nI_eq (b := 10) (by omega) (by omega)).mp z10
      omega
    · show R2 11 (40 + N) = -1
      rw [cr.1 11 (by omega) (by omega) (by omega) (by omega) (by omega) (by omega)]
      exact r11
  · exact Or.inr (fail_of kk rn d1 (fR0_t (gR_0 gr) d2))
end STEP
