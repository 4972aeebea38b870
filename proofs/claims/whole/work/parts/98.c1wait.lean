/-! FOR WHOM A HAND WAITS -/
theorem begun_bits (n : Nat) (σw σ : am_M) (M : Nat) (hr : rW σw σ M) (s : Nat) (hs : s < 8) : ∀ (k i K b : Nat), i + k = M → k < K → b < 256 → ∃ b', b' < 256 ∧ X8_begun_L4 n σ K (nI s) (nI b) (nI i) = some (nI b') := by
  obtain ⟨hM, h1, h2, h3⟩ := hr
  intro k
  induction k with
  | zero =>
    intro i K b hi hK hb
    obtain ⟨K, rfl⟩ : ∃ J, K = J + 1 := ⟨K - 1, by omega⟩
    refine ⟨b, hb, ?_⟩
    simp only [X8_begun_L4, X8_begun_B4]
    rw [if_pos (show X8_words σ ≤ nI i by rw [X8_words_eq, h2, pu_le (by omega) (by omega)]; omega)]
  | succ k ih =>
    intro i K b hi hK hb
    obtain ⟨K, rfl⟩ : ∃ J, K = J + 1 := ⟨K - 1, by omega⟩
    obtain ⟨bw, to, lo, be, a1, a2, a3, a4, e1, e2, e3, e4, e5, e6, e7⟩ := h3 i (by omega)
    simp only [X8_begun_L4, X8_begun_B4, X8_begun_J59, X8_begun_J60]
    rw [if_neg (show ¬ X8_words σ ≤ nI i by rw [X8_words_eq, h2, pu_le (by omega) (by omega)]; omega), pu_w0, pu_w1, pu_w5, nI_1, if_neg (pu_g (i := 65 + 6 * i + 0) (n := 1985) (by omega) (by omega)), if_neg (pu_g (i := 65 + 6 * i + 5) (n := 1985) (by omega) (by omega)), if_neg (pu_g (i := 65 + 6 * i + 1) (n := 1985) (by omega) (by omega)), nI_clamp (by omega), nI_clamp (by omega), nI_clamp (by omega), e1, e2, e4, Int32.or_zero]
    obtain ⟨q1, q2⟩ := bit_or b hb to a2
    rw [q1]
    split
    · split
      · exact ih (i + 1) K _ (by omega) (by omega) q2
      · exact ih (i + 1) K b (by omega) (by omega) hb
    · exact ih (i + 1) K b (by omega) (by omega) hb
theorem sh1 : ∀ o, o < 8 → (1 : Int32) <<< (nI o &&& 31) = nI (2 ^ o) := by decide +kernel
theorem pw8 : ∀ o, o < 8 → 2 ^ o < 256 := by decide +kernel
theorem eq_bits {a b : Nat} (ha : a < 256) (hb : b < 256) (h : ∀ j, j < 8 → (a.testBit j = true ↔ b.testBit j = true)) : a = b := by
  apply Nat.eq_of_testBit_eq
  intro j
  by_cases q : j < 8
  · have := h j q
    cases h1 : a.testBit j <;> cases h2 : b.testBit j <;> simp_all
  · have e : 256 ≤ 2 ^ j := by
      have : 2 ^ 8 ≤ 2 ^ j := Nat.pow_le_pow_right (by omega) (by omega)
      omega
    rw [Nat.testBit_lt_two_pow (by omega), Nat.testBit_lt_two_pow (by omega)]
theorem or_bit : ∀ b, b < 256 → ∀ h, h < 8 → ∀ j, j < 8 → ((b ||| 2 ^ h).testBit j = true ↔ (b.testBit j = true ∨ j = h)) := by
  intro b _ h _ j _
  rw [Nat.testBit_or, Nat.testBit_two_pow]
  simp only [Bool.or_eq_true, decide_eq_true_eq]
  exact ⟨fun q => q.imp id Eq.symm, fun q => q.imp id Eq.symm⟩
theorem ubn_bit {S : am_M} : ∀ k, k ≤ 8 → ∀ j, j < 8 → ((ubn S k).testBit j = true ↔ (j < k ∧ S 1 (13 * j + 0) ≠ -1)) := by
  intro k
  induction k with
  | zero =>
    intro _ j _
    show ((0 : Nat).testBit j = true ↔ _)
    rw [Nat.zero_testBit]
    exact ⟨fun q => absurd q (by decide), fun q => by omega⟩
  | succ k ih =>
    intro hk j hj
    simp only [ubn]
    have I := ih (by omega) j hj
    by_cases q : S 1 (13 * k + 0) = -1
    · rw [if_pos q, I]
      constructor
      · exact fun ⟨a, b⟩ => ⟨by omega, b⟩
      · intro ⟨a, b⟩
        refine ⟨?_, b⟩
        by_cases e : j = k
        · subst e; exact absurd q b
        · omega
    · rw [if_neg q, or_bit _ (ubn_lt k (by omega)) k (by omega) j hj, I]
      constructor
      · rintro (⟨a, b⟩ | rfl)
        · exact ⟨by omega, b⟩
        · exact ⟨by omega, q⟩
      · intro ⟨a, b⟩
        by_cases e : j = k
        · exact Or.inr e
        · exact Or.inl ⟨by omega, b⟩
theorem and_not : ∀ b, b < 256 → ∀ h, h < 8 → nI b &&& ((1 <<< (nI h &&& 31)) ^^^ (-1)) = nI (b &&& (255 - 2 ^ h)) := by decide +kernel
theorem and_not_bit : ∀ b, b < 256 → ∀ h, h < 8 → b &&& (255 - 2 ^ h) < 256 ∧ ∀ j, j < 8 → ((b &&& (255 - 2 ^ h)).testBit j = true ↔ (b.testBit j = true ∧ j ≠ h)) := by decide +kernel
theorem w98_loop (n : Nat) {σ : am_M} {m h : Nat} (m8 : m ≤ 8) (h3 : σ 0 3 = nI m) (hh : h < 8) : ∀ (d i K b : Nat), i + d = m → d < K → b < 256 → ∃ b', b' < 256 ∧ X8_waitsFor_L98 n K σ (nI h) (nI b) (nI i) = some (nI b', σ) ∧ ∀ j, j < 8 → (b'.testBit j = true ↔ b.testBit j = true ∨ (i ≤ j ∧ j < m ∧ j ≠ h ∧ σ 15 (8 * j + 0) ≠ -1)) := by
  intro d
  induction d with
  | zero =>
    intro i K b hi hK hb
    obtain ⟨K, rfl⟩ : ∃ J, K = J + 1 := ⟨K - 1, by omega⟩
    refine ⟨b, hb, ?_, fun j hj => ⟨Or.inl, fun q => q.elim id (fun r => by omega)⟩⟩
    simp only [X8_waitsFor_L98, X8_waitsFor_B98]
    rw [h3, if_pos (by rw [pu_le (by omega) (by omega)]; omega)]
  | succ d ih =>
    intro i K b hi hK hb
    obtain ⟨K, rfl⟩ : ∃ J, K = J + 1 := ⟨K - 1, by omega⟩
    simp only [X8_waitsFor_L98, X8_waitsFor_B98, X8_waitsFor_J132, X8_waitsFor_J133]
    rw [h3, if_neg (by rw [pu_le (by omega) (by omega)]; omega), Int32.or_zero, nI_1, (bit_or b hb i (by omega)).1]
    obtain ⟨b1, c1, c2, c3⟩ := ih (i + 1) K b (by omega) (by omega) hb
    obtain ⟨b2, d1, d2, d3⟩ := ih (i + 1) K (b ||| 2 ^ i) (by omega) (by omega) (bit_or b hb i (by omega)).2
    have skip : ¬ (i ≠ h ∧ σ 15 (8 * i + 0) ≠ -1) → ∀ j, j < 8 → (b1.testBit j = true ↔ b.testBit j = true ∨ (i ≤ j ∧ j < m ∧ j ≠ h ∧ σ 15 (8 * j + 0) ≠ -1)) := fun no j hj => by
      rw [c3 j hj]
      constructor
      · rintro (q | ⟨q1, q2⟩)
        · exact Or.inl q
        · exact Or.inr ⟨by omega, q2⟩
      · rintro (q | ⟨q1, q2, q3, q4⟩)
        · exact Or.inl q
        · by_cases e : j = i
          · subst e; exact absurd ⟨q3, q4⟩ no
          · exact Or.inr ⟨by omega, q2, q3, q4⟩
    by_cases e : i = h
    · rw [if_pos (by rw [e])]
      exact ⟨b1, c1, c2, skip (fun q => q.1 e)⟩
    · rw [if_neg (fun q => e ((nI_eq (by omega) (by omega)).mp q)), X8_o0 (by omega)]
      dsimp only [Option.bind]
      by_cases z : σ 15 (8 * i + 0) = -1
      · rw [if_pos z]
        exact ⟨b1, c1, c2, skip (fun q => q.2 z)⟩
      · rw [if_neg z]
        refine ⟨b2, d1, d2, fun j hj => ?_⟩
        rw [d3 j hj, or_bit b hb i (by omega) j hj]
        constructor
        · rintro ((q | q) | ⟨q1, q2⟩)
          · exact Or.inl q
          · subst q; exact Or.inr ⟨Nat.le_refl _, by omega, e, z⟩
          · exact Or.inr ⟨by omega, q2⟩
        · rintro (q | ⟨q1, q2, q3, q4⟩)
          · exact Or.inl (Or.inl q)
          · by_cases e2 : j = i
            · exact Or.inl (Or.inr e2)
            · exact Or.inr ⟨by omega, q2, q3, q4⟩
theorem w146_loop (n : Nat) {τ : Nat → Int64} {S σ : am_M} {N m t k : Nat} {kd nx ot : Nat → Nat} {G : Nat → Nat → List Int32} (hb : rB n τ S σ N m kd nx ot G) (hd : ∀ h, h < m → rHD S σ N m kd G h) (ht : t < 40) (h6 : σ 6 t = nI k) (hk : k ≤ 10) : ∀ (d i K b : Nat), i + d = m → d < K → b < 256 → ∃ b', b' < 256 ∧ X8_waitsFor_L146 n K σ (nI t) (nI b) (nI i) = some (nI b', σ) ∧ ∀ j, j < 8 → (b'.testBit j = true ↔ b.testBit j = true ∨ (i ≤ j ∧ j < m ∧ dg S j ≠ nI k)) := by
  have m8 := hb.2.2.2.1
  have h3 := hb.2.2.2.2.2.1
  intro d
  induction d with
  | zero =>
    intro i K b hi hK hb'
    obtain ⟨K, rfl⟩ : ∃ J, K = J + 1 := ⟨K - 1, by omega⟩
    refine ⟨b, hb', ?_, fun j hj => ⟨Or.inl, fun q => q.elim id (fun r => by omega)⟩⟩
    simp only [X8_waitsFor_L146, X8_waitsFor_B146]
    rw [h3, if_pos (by rw [pu_le (by omega) (by omega)]; omega)]
  | succ d ih =>
    intro i K b hi hK hb'
    obtain ⟨K, rfl⟩ : ∃ J, K = J + 1 := ⟨K - 1, by omega⟩
    have hA := isAt_eq (k := k) (st := σ 16) hb (show i < m by omega) (hd i (by omega)) hk
    rw [sC_self] at hA
    simp only [X8_waitsFor_L146, X8_waitsFor_B146, X8_waitsFor_J179]
    rw [h3, if_neg (by rw [pu_le (by omega) (by omega)]; omega), if_neg (pu_g (n := 80) (by omega) (by omega)), nI_clamp (by omega), h6, hA, Int32.or_zero, nI_1, (bit_or b hb' i (by omega)).1]
    dsimp only [Option.bind]
    obtain ⟨b1, c1, c2, c3⟩ := ih (i + 1) K b (by omega) (by omega) hb'
    obtain ⟨b2, d1, d2, d3⟩ := ih (i + 1) K (b ||| 2 ^ i) (by omega) (by omega) (bit_or b hb' i (by omega)).2
    by_cases z : dg S i = nI k
    · rw [if_pos (decide_eq_true z)]
      refine ⟨b1, c1, c2, fun j hj => ?_⟩
      rw [c3 j hj]
      constructor
      · rintro (q | ⟨q1, q2⟩)
        · exact Or.inl q
        · exact Or.inr ⟨by omega, q2⟩
      · rintro (q | ⟨q1, q2, q3⟩)
        · exact Or.inl q
        · by_cases e : j = i
          · subst e; exact absurd z q3
          · exact Or.inr ⟨by omega, q2, q3⟩
    · rw [if_neg (by rw [decide_eq_true_eq]; exact z)]
      refine ⟨b2, d1, d2, fun j hj => ?_⟩
      rw [d3 j hj, or_bit b hb' i (by omega) j hj]
      constructor
      · rintro ((q | q) | ⟨q1, q2⟩)
        · exact Or.inl q
        · subst q; exact Or.inr ⟨Nat.le_refl _, by omega, z⟩
        · exact Or.inr ⟨by omega, q2⟩
      · rintro (q | ⟨q1, q2, q3⟩)
        · exact Or.inl (Or.inl q)
        · by_cases e2 : j = i
          · exact Or.inl (Or.inr e2)
          · exact Or.inr ⟨by omega, q2, q3⟩
theorem waits_both (n : Nat) (hn : 2200 < n) {τ : Nat → Int64} {S σ : am_M} {N m h M : Nat} {kd nx ot : Nat → Nat} {G : Nat → Nat → List Int32} (hb : rB n τ S σ N m kd nx ot G) (hq : rQ S σ N m kd G M) (hh : h < m) : ∃ b st', b < 256 ∧ X2_waitsFor n S (nI h) = some (nI b) ∧ X8_waitsFor n σ (nI h) = some (nI b, sC σ 16 st') := by
  have m8 := hb.2.2.2.1
  have h3 := hb.2.2.2.2.2.1
  have hSm := hb.2.2.2.2.1
  rcases hd_cases hb hh (hq.1 h hh) with ⟨i1, i2⟩ | ⟨t, ha⟩
  · refine ⟨0, σ 16, by omega, ?_, ?_⟩
    · unfold X2_waitsFor
      rw [show X2_doing S (nI h) = -1 from i1, if_neg (by decide), if_neg (by decide), if_neg (by decide), if_neg (by decide), if_neg (by decide), if_neg (by decide), if_neg (by decide), if_neg (by decide)]
      rfl
    · unfold X8_waitsFor
      rw [X8_o0 (by omega), sC_self]
      dsimp only [Option.bind]
      rcases i2 with q | ⟨t, t1, t2, t3, t4⟩
      · rw [if_pos q]; rfl
      · rw [t2, if_neg (pu_ne1 (by omega)), X8_o1 (by omega), t4]
        dsimp only
        rw [if_pos rfl]; rfl
  · have ha0 := ha
    obtain ⟨a0, a1, a2, a3, a4, a5, a6, a7, a8, a9⟩ := ha
    have hN4 := hb.1.1
    have hkt := ((hb.1.2.2.2 t a1).1).2.2
    have hcl : X2_doing S (nI h) = nI (kd t) := a7
    have hask : kd t ≤ 3 → ∃ o st', o < m ∧ S 1 (13 * h + 10) = nI o ∧ X8_asked n σ (nI h) 0 = some (nI o, sC σ 16 st') := fun q => by
      obtain ⟨o, o1, o2, o3⟩ := a9 q
      obtain ⟨st', e⟩ := askR0 n hn hb hh ha0 q (σ 16)
      rw [sC_self] at e
      exact ⟨o, st', o1, o3, by rw [e, o3]⟩
    have er : X8_waitsFor n σ (nI h) = (if nI (kd t) = 0 then (X8_asked n σ (nI h) 0).bind (fun q7 => some ((1 <<< (q7.1 &&& 31)), q7.2)) else (if nI (kd t) = 1 then (X8_asked n σ (nI h) 0).bind (fun q9 => some ((1 <<< (q9.1 &&& 31)), q9.2)) else (if nI (kd t) = 2 then (some (0, σ)) else (if nI (kd t) = 3 then (X8_asked n σ (nI h) 0).bind (fun q12 => some ((1 <<< (q12.1 &&& 31)), q12.2)) else (if nI (kd t) = 4 then (X8_waitsFor_L98 n n σ (nI h) 0 0) else (if nI (kd t) = 5 then (X8_begun n σ (nI h)).bind (fun q15 => some (q15, σ)) else (if nI (kd t) = 6 then (X8_waitsFor_L146 n n σ (nI t) 0 0) else (if nI (kd t) = 7 then (X8_waitsFor_L146 n n σ (nI t) 0 0) else (some (0, σ)))))))))) := by
      unfold X8_waitsFor
      rw [X8_o0 (by omega), a4]
      dsimp only [Option.bind]
      rw [if_neg (pu_ne1 (by omega)), X8_o1 (by omega), a6]
      dsimp only
      rw [if_neg (show ¬ (0 : Int32) = 1 by decide), if_neg (pu_g (n := 80) (by omega) (by omega)), nI_clamp (by omega), hkt]
    have ec : X2_waitsFor n S (nI h) = (if nI (kd t) = 0 then (some (1 <<< (S 1 (13 * h + 10) &&& 31))) else (if nI (kd t) = 1 then (some (1 <<< (S 1 (13 * h + 10) &&& 31))) else (if nI (kd t) = 2 then (some 0) else (if nI (kd t) = 3 then (some (1 <<< (S 1 (13 * h + 10) &&& 31))) else (if nI (kd t) = 4 then (X2_unended n S).bind (fun q6 => some (q6 &&& ((1 <<< (nI h &&& 31)) ^^^ (-1)))) else (if nI (kd t) = 5 then (X6_begunBy n (am_sub S 2) (nI h)).bind (fun q8 => some q8) else (if nI (kd t) = 6 then (X2_notDoing n S (nI (kd t))).bind (fun q10 => some q10) else (if nI (kd t) = 7 then (X2_notDoing n S (nI (kd t))).bind (fun q12 => some q12) else (some 0))))))))) := by
      unfold X2_waitsFor
      rw [hcl, X2_g10 (by omega)]
    rcases (show kd t = 0 ∨ kd t = 1 ∨ kd t = 2 ∨ kd t = 3 ∨ kd t = 4 ∨ kd t = 5 ∨ (kd t = 6 ∨ kd t = 7) by omega) with k | k | k | k | k | k | k
    · obtain ⟨o, st', o1, o2, o3⟩ := hask (by omega)
      rw [k] at er ec
      rw [if_pos (show nI 0 = (0 : Int32) from rfl), o3] at er
      rw [if_pos (show nI 0 = (0 : Int32) from rfl), o2, sh1 o (by omega)] at ec
      refine ⟨2 ^ o, st', pw8 o (by omega), ec, er.trans ?_⟩
      show some ((1 : Int32) <<< (nI o &&& 31), sC σ 16 st') = _
      rw [sh1 o (by omega)]
    · obtain ⟨o, st', o1, o2, o3⟩ := hask (by omega)
      rw [k] at er ec
      rw [if_neg (by decide), if_pos (show nI 1 = (1 : Int32) from rfl), o3] at er
      rw [if_neg (by decide), if_pos (show nI 1 = (1 : Int32) from rfl), o2, sh1 o (by omega)] at ec
      refine ⟨2 ^ o, st', pw8 o (by omega), ec, er.trans ?_⟩
      show some ((1 : Int32) <<< (nI o &&& 31), sC σ 16 st') = _
      rw [sh1 o (by omega)]
    · rw [k] at er ec
      rw [if_neg (by decide), if_neg (by decide), if_pos (show nI 2 = (2 : Int32) from rfl)] at er ec
      exact ⟨0, σ 16, by omega, ec, by rw [sC_self]; exact er⟩
    · obtain ⟨o, st', o1, o2, o3⟩ := hask (by omega)
      rw [k] at er ec
      rw [if_neg (by decide), if_neg (by decide), if_neg (by decide), if_pos (show nI 3 = (3 : Int32) from rfl), o3] at er
      rw [if_neg (by decide), if_neg (by decide), if_neg (by decide), if_pos (show nI 3 = (3 : Int32) from rfl), o2, sh1 o (by omega)] at ec
      refine ⟨2 ^ o, st', pw8 o (by omega), ec, er.trans ?_⟩
      show some ((1 : Int32) <<< (nI o &&& 31), sC σ 16 st') = _
      rw [sh1 o (by omega)]
    · rw [k] at er ec
      rw [if_neg (by decide), if_neg (by decide), if_neg (by decide), if_neg (by decide), if_pos (show nI 4 = (4 : Int32) from rfl)] at er ec
      obtain ⟨b, b1, b2, b3⟩ := w98_loop n m8 h3 (show h < 8 by omega) m 0 n 0 (by omega) (by omega) (by omega)
      rw [nI_0] at b2
      rw [unended_eq n hn m8 hSm] at ec
      have hu := ubn_lt (S := S) m m8
      obtain ⟨c1, c2⟩ := and_not_bit (ubn S m) hu h (by omega)
      have e : ubn S m &&& (255 - 2 ^ h) = b := eq_bits c1 b1 (fun j hj => by
        rw [c2 j hj, b3 j hj, ubn_bit m m8 j hj]
        constructor
        · intro ⟨⟨q1, q2⟩, q3⟩
          refine Or.inr ⟨Nat.zero_le _, q1, q3, ?_⟩
          rw [hd_fld (hq.1 j q1) 0 (by omega)]
          exact q2
        · rintro (q | ⟨-, q1, q2, q3⟩)
          · rw [Nat.zero_testBit] at q; exact absurd q (by decide)
          · rw [hd_fld (hq.1 j q1) 0 (by omega)] at q3
            exact ⟨⟨q1, q3⟩, q2⟩)
      refine ⟨b, σ 16, b1, ?_, by rw [sC_self, er]; exact b2⟩
      rw [ec]
      show some (nI (ubn S m) &&& ((1 <<< (nI h &&& 31)) ^^^ (-1))) = _
      rw [and_not _ hu h (by omega), e]
    · rw [k] at er ec
      rw [if_neg (by decide), if_neg (by decide), if_neg (by decide), if_neg (by decide), if_neg (by decide), if_pos (show nI 5 = (5 : Int32) from rfl)] at er ec
      obtain ⟨v, v1, v2⟩ := begun_eq n (am_sub S 2) σ M hq.2.1 h (by omega) (by omega)
      obtain ⟨b, b1, b2⟩ := begun_bits n (am_sub S 2) σ M hq.2.1 h (by omega) M 0 n 0 (by omega) (by have := hq.2.1.1; omega) (by omega)
      rw [nI_0] at b2
      have ev : v = nI b := Option.some.inj (v1.symm.trans b2)
      refine ⟨b, σ 16, b1, ?_, ?_⟩
      · rw [ec, v2, ev]; rfl
      · rw [sC_self, er, v1, ev]; rfl
    · have e6 : (if nI (kd t) = 6 then (X8_waitsFor_L146 n n σ (nI t) 0 0) else (if nI (kd t) = 7 then (X8_waitsFor_L146 n n σ (nI t) 0 0) else (some (0, σ)))) = X8_waitsFor_L146 n n σ (nI t) 0 0 := by
        rcases k with k | k
        · rw [k, if_pos (show nI 6 = (6 : Int32) from rfl)]
        · rw [k, if_neg (by decide), if_pos (show nI 7 = (7 : Int32) from rfl)]
      have f6 : (if nI (kd t) = 6 then (X2_notDoing n S (nI (kd t))).bind (fun q10 => some q10) else (if nI (kd t) = 7 then (X2_notDoing n S (nI (kd t))).bind (fun q12 => some q12) else (some 0))) = X2_notDoing n S (nI (kd t)) := by
        have : ∀ x : Option Int32, x.bind (fun q => some q) = x := fun x => by cases x <;> rfl
        rcases k with k | k
        · rw [k, if_pos (show nI 6 = (6 : Int32) from rfl), this]
        · rw [k, if_neg (by decide), if_pos (show nI 7 = (7 : Int32) from rfl), this]
      have ne : ∀ x : Nat, x ≤ 5 → ¬ nI (kd t) = nI x := fun x hx q => by
        have := (nI_eq (by omega) (by omega)).mp q
        omega
      rw [if_neg (show ¬ nI (kd t) = (0 : Int32) from ne 0 (by omega)), if_neg (show ¬ nI (kd t) = (1 : Int32) from ne 1 (by omega)), if_neg (show ¬ nI (kd t) = (2 : Int32) from ne 2 (by omega)), if_neg (show ¬ nI (kd t) = (3 : Int32) from ne 3 (by omega)), if_neg (show ¬ nI (kd t) = (4 : Int32) from ne 4 (by omega)), if_neg (show ¬ nI (kd t) = (5 : Int32) from ne 5 (by omega)), e6] at er
      rw [if_neg (show ¬ nI (kd t) = (0 : Int32) from ne 0 (by omega)), if_neg (show ¬ nI (kd t) = (1 : Int32) from ne 1 (by omega)), if_neg (show ¬ nI (kd t) = (2 : Int32) from ne 2 (by omega)), if_neg (show ¬ nI (kd t) = (3 : Int32) from ne 3 (by omega)), if_neg (show ¬ nI (kd t) = (4 : Int32) from ne 4 (by omega)), if_neg (show ¬ nI (kd t) = (5 : Int32) from ne 5 (by omega)), f6] at ec
      obtain ⟨b, b1, b2, b3⟩ := w146_loop n hb hq.1 (show t < 40 by omega) hkt (by omega) m 0 n 0 (by omega) (by omega) (by omega)
      rw [nI_0] at b2
      obtain ⟨c, c1, c2, c3⟩ := notDoing_eq n hn m8 hSm (nI (kd t))
      have e : c = b := eq_bits c1 b1 (fun j hj => by
        rw [c3 j hj, b3 j hj]
        constructor
        · exact fun ⟨q1, q2⟩ => Or.inr ⟨Nat.zero_le _, q1, q2⟩
        · rintro (q | ⟨-, q⟩)
          · rw [Nat.zero_testBit] at q; exact absurd q (by decide)
          · exact q)
      subst e
      exact ⟨c, σ 16, b1, by rw [ec]; exact c2, by rw [sC_self, er]; exact b2⟩
