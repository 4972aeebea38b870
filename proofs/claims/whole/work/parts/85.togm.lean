/-! A MOVE OF ALL TOGETHER: both sides -/
theorem mv_tog (n : Nat) (hn : 2200 < n) {τ : Nat → Int64} {S σ : am_M} {N m k M : Nat} {kd nx ot : Nat → Nat} {G : Nat → Nat → List Int32} (hb : rB n τ S σ N m kd nx ot G) (hq : rQ S σ N m kd G M) (hg : S 0 15 = 0) (hz : zr σ m) (hk : k = 6 ∨ k = 7) (ha : ∀ j, j < m → ∃ t, act S σ N m kd G j t ∧ kd t = k) :
    ∃ S1 S' σ', X2_goTogether n (S00 S) (nI k) = some S1 ∧ X2_goOn n τ S1 = some S' ∧ X8_together n (M00 σ) (nI k) = some σ' ∧ mvd n τ S σ S' σ' N m kd nx ot G M M := by
  have m8 := hb.2.2.2.1
  have m2 := hb.2.2.1
  have hN4 := hb.1.1
  obtain ⟨t, ht⟩ : ∃ t : Nat → Nat, ∀ j, j < m → act S σ N m kd G j (t j) ∧ kd (t j) = k := by
    have : ∀ j, ∃ t, j < m → act S σ N m kd G j t ∧ kd t = k := fun j => by
      by_cases hj : j < m
      · obtain ⟨t, h⟩ := ha j hj
        exact ⟨t, fun _ => h⟩
      · exact ⟨0, fun q => absurd q hj⟩
    exact Classical.axiomOfChoice this
  obtain ⟨v, hv⟩ : ∃ v : Nat → Nat, ∀ j, j < m → v j < 4 ∧ S 15 (t j) = nI (v j) ∧ σ 9 (t j) = nI (v j) := by
    have : ∀ j, ∃ v, j < m → v < 4 ∧ S 15 (t j) = nI v ∧ σ 9 (t j) = nI v := fun j => by
      by_cases hj : j < m
      · obtain ⟨v, h⟩ := (hb.1.2.2.2 (t j) (ht j hj).1.2.1).2.2.1
        exact ⟨v, fun _ => h⟩
      · exact ⟨0, fun q => absurd q hj⟩
    exact Classical.axiomOfChoice this
  have hb0 := rB_00 hb
  -- the class
  obtain ⟨L, hL⟩ : ∃ L, L = mxF (S 8) 0 0 m := ⟨_, rfl⟩
  obtain ⟨T, hT⟩ : ∃ T, T = smF (fun j => S 1 (13 * j + 12)) 0 0 m := ⟨_, rfl⟩
  obtain ⟨c8, hc8⟩ : ∃ c8, c8 = clF (S 8) L m := ⟨_, rfl⟩
  obtain ⟨c9, hc9⟩ : ∃ c9, c9 = wL9 (S 8) (S 9) L m := ⟨_, rfl⟩
  obtain ⟨F, hF⟩ : ∃ F, F = rwC k (S 1) v T m := ⟨_, rfl⟩
  obtain ⟨S1, hS1⟩ : ∃ S1, S1 = stT (S00 S) c8 c9 F (nI (2 ^ m - 1)) := ⟨_, rfl⟩
  have c1 : X2_goTogether n (S00 S) (nI k) = some S1 := by
    have e1 := tog_c1 n (S := S00 S) (k := k) m8 hb.2.2.2.2.1 m 0 n 0 0 (by omega) (by omega)
    have e2 := tog_c2 n (S := S00 S) (N := N) (m := m) (k := k) (L := L) (T := T) (t := t) (v := v) m8 hb.2.2.2.2.1 hk hN4 (fun j hj => ⟨(ht j hj).1.2.1, (ht j hj).1.2.2.2.1, (hv j hj).2.1, (hv j hj).1⟩) m 0 n (by omega) (by omega)
    have hst : stT (S00 S) (S00 S 8) (S00 S 9) (S00 S 1) (nI (2 ^ 0 - 1)) = S00 S := by
      have := stT_self (S := S00 S)
      rw [show S00 S 0 15 = nI (2 ^ 0 - 1) from hg] at this
      exact this
    rw [clF_0, wL9_0, rwC_0, hst] at e2
    unfold X2_goTogether
    rw [← nI_0] at e1 ⊢
    rw [e1, hS1, hc8, hc9, hF]
    rw [hL, hT] at e2 ⊢
    exact e2
  -- the reference
  obtain ⟨st, T', e1, e2⟩ := tog_r1 n hn hb0 hk (fun j hj => ⟨t j, act_00 (by omega) (ht j hj).1, (ht j hj).2⟩) m 0 n 0 0 (M00 σ 16) (by omega) (by omega)
  obtain ⟨L', hL'⟩ : ∃ L', L' = mxF (σ 17) 0 0 m := ⟨_, rfl⟩
  obtain ⟨d7, hd7⟩ : ∃ d7, d7 = clF (σ 17) L' m := ⟨_, rfl⟩
  obtain ⟨d8, hd8⟩ : ∃ d8, d8 = wL9 (σ 17) (σ 18) L' m := ⟨_, rfl⟩
  obtain ⟨g, hgd⟩ : ∃ g, g = rwM k (σ 15) v T' m := ⟨_, rfl⟩
  obtain ⟨σ1, hσ1⟩ : ∃ σ1, σ1 = stR (sC (M00 σ) 16 st) d7 d8 g := ⟨_, rfl⟩
  have c2 : X8_together n (M00 σ) (nI k) = X8_together_L120 n n σ1 0 := by
    have e3 := tog_r2 n (σ := sC (M00 σ) 16 st) (N := N) (m := m) (k := k) (L := L') (T := T') (t := t) (v := v) m8 hb.2.2.2.2.2.1 hk hN4 (fun j hj => ⟨(ht j hj).1.2.1, (ht j hj).1.2.2.2.2.1, (hv j hj).2.2, (hv j hj).1⟩) m 0 n (by omega) (by omega)
    rw [clF_0, wL9_0, rwM_0, stR_self] at e3
    rw [sC_self, nI_0] at e1
    unfold X8_together
    rw [e1, hσ1, hd7, hd8, hgd]
    rw [nI_0] at e3
    rw [hL'] at e3 ⊢
    exact e3
  have S1c : ∀ c, c ≠ 0 → c ≠ 1 → c ≠ 8 → c ≠ 9 → S1 c = S c := fun c h0 h1 h2 h3 => by
    rw [hS1]
    unfold stT
    rw [sC_ne h0, sC_ne h1, sC_ne h3, sC_ne h2]
    exact sC_ne h0
  have S1f : ∀ k, k ≠ 12 → k ≠ 15 → S1 0 k = S 0 k := fun k h1 h2 => by
    rw [hS1]
    show am_u (am_u (S 0) 12 (-1)) 15 _ k = _
    rw [am_u_ne h2, am_u_ne h1]
  have S112 : S1 0 12 = -1 := by rw [hS1]; rfl
  have S115 : S1 0 15 = nI (2 ^ m - 1) := by rw [hS1]; rfl
  have S11 : S1 1 = F := by rw [hS1]; rfl
  have S18 : S1 8 = c8 := by rw [hS1]; rfl
  have S19 : S1 9 = c9 := by rw [hS1]; rfl
  have σc : ∀ c, c ≠ 0 → c ≠ 15 → c ≠ 16 → c ≠ 17 → c ≠ 18 → σ1 c = σ c := fun c h0 h1 h2 h3 h4 => by
    rw [hσ1]
    unfold stR
    rw [sC_ne h1, sC_ne h4, sC_ne h3, sC_ne h2]
    exact sC_ne h0
  have σf : ∀ k, k ≠ 40 → σ1 0 k = σ 0 k := fun k h1 => by
    rw [hσ1]
    show am_u (σ 0) 40 (-1) k = _
    rw [am_u_ne h1]
  have σ40 : σ1 0 40 = -1 := by rw [hσ1]; rfl
  have σ15 : σ1 15 = g := by rw [hσ1]; rfl
  have σ17 : σ1 17 = d7 := by rw [hσ1]; rfl
  have σ18 : σ1 18 = d8 := by rw [hσ1]; rfl
  have hb1 : rB n τ S1 σ1 N m kd nx ot G := rB_congr (S := S) (σ := σ) (fun c q1 _ => S1c c (by omega) (by omega) (by omega) (by omega)) (S1f 1 (by omega) (by omega)) (S1f 2 (by omega) (by omega)) (fun c q1 q2 => σc c (by omega) (by omega) (by omega) (by omega) (by omega)) (σf 3 (by omega)) (σf 4 (by omega)) hb
  have hTT : k = 7 → T' = T := fun q => by rw [e2 q, hT]; rfl
  have rowC : ∀ j, j < m → ∀ i, i < 13 → S1 1 (13 * j + i) = if k = 7 ∧ i = 2 + v j then T else S 1 (13 * j + i) := fun j hj i hi => by
    rw [S11, hF, rwC_at hj hi]
  have rowM : ∀ j, j < m → ∀ i, i < 8 → σ1 15 (8 * j + i) = if k = 7 ∧ i = 2 + v j then T else σ 15 (8 * j + i) := fun j hj i hi => by
    rw [σ15, hgd, rwM_at hj hi]
    by_cases q : k = 7 ∧ i = 2 + v j
    · rw [if_pos q, if_pos q, hTT q.1]
    · rw [if_neg q, if_neg q]
  have hk7 : k ≤ 7 := by omega
  have hp : ∀ j, j < m → pend n τ S1 σ1 N m kd nx ot G j (t j) := fun j hj => by
    obtain ⟨v4, -, -⟩ := hv j hj
    obtain ⟨⟨q0, q1, q2, q3, q4, q5, q6, q7, q8, q9⟩, ek⟩ := ht j hj
    obtain ⟨r2, r6, r7, r8, r9⟩ := q0
    have nC : ∀ i, i < 13 → i < 2 ∨ 6 ≤ i → S1 1 (13 * j + i) = S 1 (13 * j + i) := fun i hi h => by rw [rowC j hj i hi, if_neg (fun q => by omega)]
    have nM : ∀ i, i < 8 → i < 2 ∨ 6 ≤ i → σ1 15 (8 * j + i) = σ 15 (8 * j + i) := fun i hi h => by rw [rowM j hj i hi, if_neg (fun q => by omega)]
    refine ⟨hb1.1, hb1.2.1, hb1.2.2.2.2.2.1, ⟨fun w hw => ?_, ?_, ?_, ?_, ?_⟩, q1, by omega, ?_, ?_, ?_, ?_⟩
    · rw [show 13 * j + 2 + w = 13 * j + (2 + w) by omega, show 8 * j + 2 + w = 8 * j + (2 + w) by omega, rowC j hj _ (by omega), rowM j hj _ (by omega)]
      have := r2 w hw
      rw [show 13 * j + 2 + w = 13 * j + (2 + w) by omega, show 8 * j + 2 + w = 8 * j + (2 + w) by omega] at this
      rw [this]
    · rw [nC 6 (by omega) (by omega)]; exact r6
    · rw [nC 7 (by omega) (by omega)]; exact r7
    · rw [nC 8 (by omega) (by omega), nM 6 (by omega) (by omega)]; exact r8
    · rw [nC 9 (by omega) (by omega), nM 7 (by omega) (by omega)]; exact r9
    · rw [nC 0 (by omega) (by omega)]; exact q3
    · rw [nM 0 (by omega) (by omega)]; exact q4
    · rw [nC 1 (by omega) (by omega)]; exact q5
    · rw [nM 1 (by omega) (by omega)]; exact q6
  have hpow : 2 ^ m - 1 < 256 := by
    have : 2 ^ m ≤ 2 ^ 8 := Nat.pow_le_pow_right (by omega) m8
    omega
  have hbit : ∀ h, h < m → (2 ^ m - 1).testBit h = true := fun h hh => by
    rw [Nat.testBit_two_pow_sub_one, decide_eq_true hh]
  obtain ⟨f', st', w1, w2, w3⟩ := goOn_cl n hn (τ := τ) (N := N) (kd := kd) (nx := nx) (ot := ot) (G := G) (show 0 < m by omega) m8 hb1.2.2.2.2.1 hpow S115 (fun h hh _ => ⟨σ1, t h, hp h hh⟩)
  obtain ⟨g', s', x1, x2, x3⟩ := tog_go n (σ1 := σ1) m8 hb1.2.2.2.2.2.1 hp (fun h hh => w3 h hh (hbit h hh)) m 0 n (σ1 15) (σ1 16) (by omega) (by omega) (fun _ _ => rfl) (fun h hh => by omega)
  rw [stM_self, nI_0] at x1
  have g64 : ∀ x, 8 * m ≤ x → g' x = σ 15 x := fun x hx => by
    rw [x2 x hx, σ15, hgd, rwM_hi hx]
  refine ⟨S1, _, _, c1, w1, c2.trans x1, ?_, ⟨fun j hj => ?_, ?_, fun k hk => ?_⟩, rfl, fun j h1 h2 => ?_, ?_, by omega, fun B hB hc => ?_, fun c hc => ?_, fun k hk => ?_, fun c h1 h2 => ?_, fun k hk => ?_, ?_⟩
  · refine rB_congr (S := S1) (σ := σ1) (fun c q1 q2 => ?_) rfl rfl (fun c q1 q2 => ?_) rfl rfl hb1
    · simp only [stS, sC_app]
      rw [if_neg (by omega), if_neg (by omega), if_neg (by omega)]
    · simp only [stM, sC_app]
      rw [if_neg (by omega), if_neg (by omega)]
  · exact rHD_congr (S := stS S1 f' st') (σ := stM σ1 g' s') (by omega) (fun _ _ => rfl) (fun _ _ => rfl) (x3 j hj)
  · refine rW_congr (σw := am_sub S 2) (σ := σ) (fun c hc => ?_) (fun j hj => g64 j (by omega)) hq.2.1
    rcases (show c = 0 ∨ c = 1 ∨ c = 2 ∨ c = 3 by omega) with rfl | rfl | rfl | rfl
    · exact S1c 2 (by omega) (by omega) (by omega) (by omega)
    · exact S1c 3 (by omega) (by omega) (by omega) (by omega)
    · exact S1c 4 (by omega) (by omega) (by omega) (by omega)
    · exact S1c 5 (by omega) (by omega) (by omega) (by omega)
  · show g' _ ≠ g' _
    rw [g64 _ (by omega), g64 _ (by omega)]
    exact hq.2.2 k hk
  · show g' j = 0
    rw [g64 _ (by omega)]
    exact hz j h1 h2
  · have hlt : ∀ j, j < m → ph S N j < ph (sC (stS S1 f' st') 0 (am_u (S1 0) 15 0)) N j := fun j hj => by
      obtain ⟨_, _, -, -, -, t', d4, d5, d6⟩ := w3 j hj (hbit j hj) σ1 (t j) (hp j hj)
      rw [ph_act hN4 (ht j hj).1]
      unfold ph
      show t j < ps N (f' (13 * j + 0)) + _
      rw [d6, ps_tgt hN4 d5]
      omega
    exact sumF_lt m (fun j hj => Nat.le_of_lt (hlt j hj)) ⟨0, by omega, hlt 0 (by omega)⟩
  · obtain ⟨r1, r2, r3, r4, ⟨x, y1, y2, y3⟩, ⟨y, z1, z2, z3⟩⟩ := hc
    obtain ⟨l, l1, l2, l3⟩ := mx_both (f := S 8) (g := σ 17) (B := B) (by omega) r1 m 0 0 (by omega) (by omega)
    rw [nI_0, ← hL] at l2
    rw [nI_0, ← hL'] at l3
    refine ⟨fun j hj => ?_, fun j hj => ?_, fun j hj => ?_, fun k hk => ?_, ⟨x, y1, (S1f 3 (by omega) (by omega)).trans y2, (σf 5 (by omega)).trans y3⟩, ⟨y, z1, (S1f 4 (by omega) (by omega)).trans z2, (σf 6 (by omega)).trans z3⟩⟩
    · obtain ⟨a, a1, a2, a3⟩ := r1 j hj
      have q1 : c8 j = if j < m then S 8 j + dl (S 8 j) L + 1 else S 8 j := by rw [hc8]; rfl
      have q2 : d7 j = if j < m then σ 17 j + dl (σ 17 j) L' + 1 else σ 17 j := by rw [hd7]; rfl
      by_cases hj2 : j < m
      · rw [if_pos hj2, a2, l2, dl_nI (by omega) (by omega), nI_1] at q1
        rw [if_pos hj2, a3, l3, dl_nI (by omega) (by omega), nI_1] at q2
        exact ⟨max a l + 1, by omega, by rw [← q1, ← S18]; rfl, by rw [← q2, ← σ17]; rfl⟩
      · rw [if_neg hj2, a2] at q1
        rw [if_neg hj2, a3] at q2
        exact ⟨a, by omega, by rw [← q1, ← S18]; rfl, by rw [← q2, ← σ17]; rfl⟩
    · obtain ⟨a, a1, a2, a3⟩ := r1 j hj
      show S1 9 j = σ1 18 j
      rw [S19, σ18, hc9, hd8]
      unfold wL9
      rw [a2, a3, l2, l3, r2 j hj]
    · obtain ⟨a, a1, a2, a3⟩ := r3 j hj
      exact ⟨a, by omega, (congrFun (S1c 10 (by omega) (by omega) (by omega) (by omega)) j).trans a2, (congrFun (σc 19 (by omega) (by omega) (by omega) (by omega) (by omega)) j).trans a3⟩
    · obtain ⟨a, a1, a2, a3⟩ := r4 k hk
      exact ⟨a, by omega, (congrFun (S1c 6 (by omega) (by omega) (by omega) (by omega)) k).trans a2, (congrFun (σc 20 (by omega) (by omega) (by omega) (by omega) (by omega)) k).trans a3⟩
  · rw [sC_app, if_neg (by omega)]
    unfold stS
    rw [sC_app, if_neg (by omega), sC_app, if_neg (by omega)]
    exact S1c c (by omega) (by omega) (by omega) (by omega)
  · show am_u (S1 0) 15 0 k = _
    rw [am_u_ne (by omega)]
    exact S1f k (by omega) (by omega)
  · unfold stM
    rw [sC_app, if_neg (by omega), sC_app, if_neg (by omega)]
    exact σc c h1 (by omega) (by omega) (by omega) (by omega)
  · exact σf k (by omega)
  · exact Or.inl ⟨S112, σ40⟩
