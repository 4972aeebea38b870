/-! THE LAW'S CASES: a PLAY -/
theorem and15 (v : Int32) : ∃ k, k < 16 ∧ v &&& 15 = nI k := by
  refine ⟨(v &&& 15).toBitVec.toNat, ?_, ?_⟩
  · show (v.toBitVec &&& 15#32).toNat < 16
    rw [BitVec.toNat_and]
    exact Nat.lt_of_le_of_lt Nat.and_le_right (by decide)
  · apply Int32.toBitVec_inj.mp
    show _ = BitVec.ofNat 32 _
    rw [BitVec.ofNat_toNat, BitVec.setWidth_eq]
theorem nI_ltN {a b : Nat} (ha : a < 2147483648) (hb : b < 2147483648) : (nI a < nI b) ↔ a < b := by
  constructor
  · intro q
    rcases Nat.lt_or_ge a b with z | z
    · exact z
    · exact absurd q (Int32.not_lt.mpr ((nI_leI hb ha).mpr z))
  · intro q
    exact Int32.not_le.mp (fun z => by have := (nI_leI hb ha).mp z; omega)
theorem nI_n0 {a : Nat} (ha : a < 2147483640) : ¬ nI a < 0 := fun q => pu_g (n := a + 1) (by omega) (by omega) (Or.inl q)
section PLAY
variable {n c L : Nat} {xs : Nat → Int32} {kont : (Nat → Nat) → am_M → (Nat → Int64) → (Nat → Int64) → am_M → Int32 → Option Bool} {χ : Nat → Nat} {σ : am_M} {τ o : Nat → Int64} {ρ : am_M} {k : Nat}
theorem hS_gen {F H σ σ' ρ ρ' : am_M} {N m x y : Nat} {kd nx ot : Nat → Nat} {G : Nat → Nat → List Int32} {D : Nat → Int32 → Int64 → VT} (hσ : ∀ k, (1 ≤ k ∧ k < 26) → σ' k = σ k) (h0 : ∀ k, 2 ≤ k → k ≤ 5 → σ' 0 k = σ 0 k) (r1 : ∀ c, 1 ≤ c → c < 15 → ρ' c = ρ c) (r2 : ∀ k, 3 ≤ k → k ≤ 35 → ρ' 0 k = ρ 0 k) (r3 : ∃ M', M' ≤ 320 ∧ ρ' 15 64 = nI M') (h : hS n F H σ ρ N m x y kd nx ot G D) : hS n F H σ' ρ' N m x y kd nx ot G D := by
  obtain ⟨a1, a2, a3, a4, a5, a6, a7, a8, a9, a10, a11, a12, a13, a14, a15, a16, a17, a18, ⟨f, f1, f2, f3, f4⟩, a20, a21, a22⟩ := h
  refine ⟨a1, a2, fun c q1 q2 => ?_, fun c q1 q2 => ?_, by rw [hσ 18 (by omega)]; exact a5, by rw [r1 14 (by omega) (by omega)]; exact a6, a7, a8, by rw [h0 2 (by omega) (by omega)]; exact a9, by rw [r2 3 (by omega) (by omega)]; exact a10, by rw [h0 3 (by omega) (by omega), r2 4 (by omega) (by omega)]; exact a11, by rw [r2 4 (by omega) (by omega)]; exact a12, a13, a14, by rw [h0 4 (by omega) (by omega)]; exact a15, by rw [r2 5 (by omega) (by omega)]; exact a16, by rw [h0 5 (by omega) (by omega)]; exact a17, by rw [r2 6 (by omega) (by omega)]; exact a18, ⟨f, f1, by rw [hσ 2 (by omega)]; exact f2, by rw [r2 10 (by omega) (by omega)]; exact f3, by rw [hσ 3 (by omega), r1 3 (by omega) (by omega)]; exact f4⟩, by rw [hσ 1 (by omega), r2 20 (by omega) (by omega)]; exact a20, by rw [r2 35 (by omega) (by omega)]; exact a21, r3⟩
  · rw [← a3 c q1 q2, sg_app, sg_app, if_neg (by omega), if_pos q2, if_neg (by omega), if_pos q2]
    exact hσ (c + 6) (by omega)
  · rw [r1 c (by omega) (by omega)]
    exact a4 c q1 q2
theorem l171 (hn : 2200 < n) {b : Int32} {z : Nat} (hz : z ≤ 320) : ∀ (d j K : Nat) (R : am_M), j + d = z → d < K → R 0 59 = nI z → ∃ g, X8_play_L171 n K R b (nI j) = some (b, sC (sC R 35 g) 0 (am_u (am_u (R 0) 57 (R 0 3)) 58 (R 0 8))) ∧ (∀ x, x < j → g x = R 35 x) ∧ ∀ x, j ≤ x → x < z → g x = R 29 x := by
  intro d
  induction d with
  | zero =>
    intro j K R hj hK h59
    obtain ⟨K, rfl⟩ : ∃ J, K = J + 1 := ⟨K - 1, by omega⟩
    refine ⟨R 35, ?_, fun _ _ => rfl, fun x h1 h2 => by omega⟩
    simp only [X8_play_L171, X8_play_B171]
    rw [h59, if_pos (by rw [pu_le (by omega) (by omega)]; omega), sC_self]
  | succ d ih =>
    intro j K R hj hK h59
    obtain ⟨K, rfl⟩ : ∃ J, K = J + 1 := ⟨K - 1, by omega⟩
    obtain ⟨g, g1, g2, g3⟩ := ih (j + 1) K (sC R 35 (upd (R 35) j (R 29 j))) (by omega) (by omega) h59
    refine ⟨g, ?_, fun x hx => ?_, fun x h1 h2 => ?_⟩
    · simp only [X8_play_L171, X8_play_B171]
      rw [h59, if_neg (by rw [pu_le (by omega) (by omega)]; omega), if_neg (pu_g (n := 320) (by omega) (by omega)), nI_clamp (by omega), if_neg (pu_gn (n := 320) (by omega) (by omega)), nI_1, g1, sC_sC]
    · rw [g2 x (by omega)]
      exact upd_ne (by omega)
    · by_cases q : x = j
      · rw [q, g2 j (by omega)]
        exact upd_eq
      · rw [g3 x (by omega) h2]
theorem l133 (hn : 2200 < n) {b : Int32} : ∀ (d j K : Nat) (R : am_M), j + d = 64 → d < K → ∃ g, X8_play_L133 n K R b (nI j) = X8_play_L171 n n (sC (sC R 28 g) 0 (am_u (R 0) 68 (R 0 59))) b 0 ∧ (∀ x, x < j → g x = R 28 x) ∧ ∀ x, j ≤ x → x < 64 → g x = R 15 x := by
  intro d
  induction d with
  | zero =>
    intro j K R hj hK
    obtain ⟨K, rfl⟩ : ∃ J, K = J + 1 := ⟨K - 1, by omega⟩
    refine ⟨R 28, ?_, fun _ _ => rfl, fun x h1 h2 => by omega⟩
    simp only [X8_play_L133, X8_play_B133]
    rw [if_pos (show (64 : Int32) ≤ nI j by rw [show (64 : Int32) = nI 64 from rfl, pu_le (by omega) (by omega)]; omega), sC_self]
  | succ d ih =>
    intro j K R hj hK
    obtain ⟨K, rfl⟩ : ∃ J, K = J + 1 := ⟨K - 1, by omega⟩
    obtain ⟨g, g1, g2, g3⟩ := ih (j + 1) K (sC R 28 (upd (R 28) j (R 15 j))) (by omega) (by omega)
    refine ⟨g, ?_, fun x hx => ?_, fun x h1 h2 => ?_⟩
    · simp only [X8_play_L133, X8_play_B133]
      rw [if_neg (show ¬ (64 : Int32) ≤ nI j by rw [show (64 : Int32) = nI 64 from rfl, pu_le (by omega) (by omega)]; omega), if_neg (pu_g (n := 1985) (by omega) (by omega)), nI_clamp (by omega), if_neg (pu_gn (n := 1985) (by omega) (by omega)), nI_1, g1, sC_sC]
    · rw [g2 x (by omega)]
      exact upd_ne (by omega)
    · by_cases q : x = j
      · rw [q, g2 j (by omega)]
        exact upd_eq
      · rw [g3 x (by omega) h2]
theorem l70 (hn : 2200 < n) {τ : Nat → Int64} {P1 R1 : am_M} {N m M : Nat} {kd nx ot : Nat → Nat} {G : Nat → Nat → List Int32} {w : Nat → Nat} {b : Int32} (hb : rB n (am_sub τ 1) (am_sub P1 1) R1 N m kd nx ot G) (hq : rQ (am_sub P1 1) R1 N m kd G M) (hw : ∀ h, h < m → w h < 256 ∧ X2_waitsFor n (am_sub P1 1) (nI h) = some (nI (w h))) : ∀ (d h K : Nat) (R2 : am_M), h + d = m → d < K → (∀ c, c ≠ 16 → c ≠ 31 → c ≠ 33 → c ≠ 34 → R2 c = R1 c) → (∀ t, t < h → R2 31 t = nI (w t) ∧ R2 33 t = R1 17 t ∧ R2 34 t = R1 18 t) → ∃ R3, X8_play_L70 n K R2 b (nI h) = (X8_tellRing n R3).bind (fun q2 => X8_play_L133 n n q2 b 0) ∧ (∀ c, c ≠ 16 → c ≠ 31 → c ≠ 33 → c ≠ 34 → R3 c = R1 c) ∧ ∀ t, t < m → R3 31 t = nI (w t) ∧ R3 33 t = R1 17 t ∧ R3 34 t = R1 18 t := by
  have m8 : m ≤ 8 := hb.2.2.2.1
  have h3 : R1 0 3 = nI m := hb.2.2.2.2.2.1
  intro d
  induction d with
  | zero =>
    intro h K R2 hh hK e1 e2
    obtain ⟨K, rfl⟩ : ∃ J, K = J + 1 := ⟨K - 1, by omega⟩
    refine ⟨R2, ?_, e1, fun t ht => e2 t (by omega)⟩
    simp only [X8_play_L70, X8_play_B70]
    rw [e1 0 (by omega) (by omega) (by omega) (by omega), h3, if_pos (by rw [pu_le (by omega) (by omega)]; omega)]
  | succ d ih =>
    intro h K R2 hh hK e1 e2
    obtain ⟨K, rfl⟩ : ∃ J, K = J + 1 := ⟨K - 1, by omega⟩
    have e0 : R2 0 = R1 0 := e1 0 (by omega) (by omega) (by omega) (by omega)
    have hb2 : rB n (am_sub τ 1) (am_sub P1 1) R2 N m kd nx ot G := rB_congr (fun _ _ _ => rfl) rfl rfl (fun c q1 q2 => e1 c (by omega) (by omega) (by omega) (by omega)) (by rw [e0]) (by rw [e0]) hb
    have hq2 : rQ (am_sub P1 1) R2 N m kd G M := rQ_congr m8 rfl (fun _ _ _ => rfl) (e1 15 (by omega) (by omega) (by omega) (by omega)) hq
    obtain ⟨bb, st, b1, b2, b3⟩ := waits_both n hn hb2 hq2 (show h < m by omega)
    obtain ⟨w1, w2⟩ := hw h (by omega)
    have eb : nI bb = nI (w h) := Option.some.inj (b2.symm.trans w2)
    rw [eb] at b3
    obtain ⟨R3, i1, i2, i3⟩ := ih (h + 1) K (sC (sC (sC (sC R2 16 st) 31 (upd (R2 31) h (nI (w h)))) 33 (upd (R2 33) h (R2 17 h))) 34 (upd (R2 34) h (R2 18 h))) (by omega) (by omega) (fun c q1 q2 q3 q4 => by rw [sC_ne q4, sC_ne q3, sC_ne q2, sC_ne q1]; exact e1 c q1 q2 q3 q4) (fun t ht => by
      show upd (R2 31) h (nI (w h)) t = _ ∧ upd (R2 33) h (R2 17 h) t = _ ∧ upd (R2 34) h (R2 18 h) t = _
      by_cases q : t = h
      · rw [q, upd_eq, upd_eq, upd_eq, e1 17 (by omega) (by omega) (by omega) (by omega), e1 18 (by omega) (by omega) (by omega) (by omega)]
        exact ⟨rfl, rfl, rfl⟩
      · rw [upd_ne q, upd_ne q, upd_ne q]
        exact e2 t (by omega))
    refine ⟨R3, ?_, i2, i3⟩
    rw [← i1]
    simp only [X8_play_L70, X8_play_B70]
    rw [e0, h3, if_neg (by rw [pu_le (by omega) (by omega)]; omega), b3]
    dsimp only [Option.bind]
    have g8 := pu_gn (i := h) (n := 8) (by omega) (by omega)
    rw [nI_clamp (show h < 2 ^ 31 by omega), if_neg g8, if_neg g8, if_neg g8, if_neg g8, if_neg g8, nI_1]
/-- the choices, told to both -/
theorem play_loop (hn : 2200 < n) {m many : Nat} {ch : Int64} {R : am_M} (hmany : many ≤ 16) (m8 : m ≤ 8) (σ2 : σ 0 2 = nI m) (R3 : R 0 3 = nI m) : ∀ (d i K K' : Nat), i + d = many → d < K → d < K' → (∀ j, j < i → ∃ k, k < m ∧ chv ch j = nI k) → (X7_play_L23 n K σ τ χ (nI many) ch (nI i) = some (none, σ, τ, χ) ∧ X8_play_L24 n K' R (nI many) ch (nI i) = (X8_fail R 1).bind (fun q4 => some (q4.1, q4.2))) ∨ ((∀ j, j < many → ∃ k, k < m ∧ chv ch j = nI k) ∧ X7_play_L23 n K σ τ χ (nI many) ch (nI i) = (X0_run n (am_sg (sC σ 0 (am_u (σ 0) 9 1)) 46) (am_sg τ 46) (σ 0 2) (σ 0 3) (σ 0 4) (σ 0 5) (nI many) ch).bind (fun q2 => some (some q2.1, am_pg (sC σ 0 (am_u (σ 0) 9 1)) 46 2 q2.2.1, am_pg τ 46 2 q2.2.2, updN χ 47 18)) ∧ X8_play_L24 n K' R (nI many) ch (nI i) = (X8_run n R (nI many) ch).bind (fun q2 => X8_play_L70 n n q2.2 q2.1 0)) := by
  intro d
  induction d with
  | zero =>
    intro i K K' hi h1 h2 hv
    obtain ⟨K, rfl⟩ : ∃ J, K = J + 1 := ⟨K - 1, by omega⟩
    obtain ⟨K', rfl⟩ : ∃ J, K' = J + 1 := ⟨K' - 1, by omega⟩
    have le : nI many ≤ nI i := by rw [pu_le (by omega) (by omega)]; omega
    refine Or.inr ⟨fun j hj => hv j (by omega), ?_, ?_⟩
    · simp only [X7_play_L23, X7_play_B23]
      rw [if_pos le]
    · simp only [X8_play_L24, X8_play_B24]
      rw [if_pos le]
  | succ d ih =>
    intro i K K' hi h1 h2 hv
    obtain ⟨K, rfl⟩ : ∃ J, K = J + 1 := ⟨K - 1, by omega⟩
    obtain ⟨K', rfl⟩ : ∃ J, K' = J + 1 := ⟨K' - 1, by omega⟩
    have le : ¬ nI many ≤ nI i := by rw [pu_le (by omega) (by omega)]; omega
    obtain ⟨v, v16, hv2⟩ := and15 (am_lshr ch (4 * nI i)).toInt32
    simp only [X7_play_L23, X7_play_B23, X8_play_L24, X8_play_B24]
    rw [if_neg le, if_neg le, choice_eq ch (show i < 16 by omega), hv2, R3, nI_1]
    unfold X7_isNoHand
    rw [σ2, if_neg (nI_n0 (show v < 2147483640 by omega))]
    by_cases c1 : v < m
    · rw [if_pos ((nI_ltN (by omega) (by omega)).mpr c1), if_pos ((nI_ltN (by omega) (by omega)).mpr c1), if_neg Bool.false_ne_true]
      rw [σ2] at ih
      exact ih (i + 1) K K' (by omega) (by omega) (by omega) (fun j hj => by
        by_cases q : j = i
        · rw [q]
          exact ⟨v, c1, hv2⟩
        · exact hv j (by omega))
    · have n1 : ¬ nI v < nI m := fun q => c1 ((nI_ltN (by omega) (by omega)).mp q)
      rw [if_neg n1, if_neg n1, if_pos rfl]
      exact Or.inl ⟨rfl, rfl⟩
theorem case14 (hn : 2200 < n) (hL : k + 5 < L) (hL2 : L ≤ 3072) (hk : KT n c kont (nI k)) (h : hRel n c χ σ τ ρ) : L_c14 n L xs kont χ σ τ o ρ (nI k) = some true := by
  have hr1 := hRel_ref (rSame_2 (a := 1) (hRel_now h)) h
  have hch := hRel_ch h
  obtain ⟨F, H, N, m, x, y, v, tv, kd, nx, ot, G, D, h1, h2, h3, h4, h5, h6⟩ := h
  have N4 : N ≤ 40 := h1.1.1
  have m2 : 2 ≤ m := h1.2.2.2.2.2.2.1
  have m8 : m ≤ 8 := h1.2.2.2.2.2.2.2.1
  have σ2 : σ 0 2 = nI m := h1.2.2.2.2.2.2.2.2.1
  have ρ3 : ρ 0 3 = nI m := h1.2.2.2.2.2.2.2.2.2.1
  have σ3 : σ 0 3 = ρ 0 4 := h1.2.2.2.2.2.2.2.2.2.2.1
  have hx9 := h1.2.2.2.2.2.2.2.2.2.2.2.2.1
  have hy9 := h1.2.2.2.2.2.2.2.2.2.2.2.2.2.1
  have σ4 := h1.2.2.2.2.2.2.2.2.2.2.2.2.2.2.1
  have ρ5 := h1.2.2.2.2.2.2.2.2.2.2.2.2.2.2.2.1
  have σ5 := h1.2.2.2.2.2.2.2.2.2.2.2.2.2.2.2.2.1
  have ρ6 := h1.2.2.2.2.2.2.2.2.2.2.2.2.2.2.2.2.2.1
  have z14 := h1.2.2.2.2.2.1
  unfold L_c14
  rw [nI_1, show nI k + 2 = nI (k + 2) from nI_add k 2, show nI k + 3 = nI (k + 3) from nI_add k 3, if_neg (pu_g (n := L) (by omega) (by omega)), if_neg (pu_g (n := L) (by omega) (by omega)), if_neg (pu_g (n := L) (by omega) (by omega))]
  generalize xs (nI (k + 1)).toNatClampNeg = a1
  generalize ((am_lshl ((xs (nI (k + 2)).toNatClampNeg).toInt64) 32) ||| (((xs (nI (k + 3)).toNatClampNeg).toInt64) &&& (4294967295 : Int64))) = ch
  refine ans hk ?_
  obtain ⟨R, hR⟩ : ∃ R, R = sC ρ 0 (am_u (ρ 0) 2 0) := ⟨_, rfl⟩
  have fl : (X8_fail R 1).bind (fun q4 => some (q4.1, q4.2)) = some ((0 : Int32), sC ρ 0 (am_u (ρ 0) 2 1)) := by
    rw [hR]
    unfold X8_fail
    dsimp only [Option.bind]
    rw [code_21]
  have bad : X7_play n σ τ χ a1 ch = some (none, σ, τ, χ) → X8_play n ρ a1 ch = (X8_fail R 1).bind (fun q4 => some (q4.1, q4.2)) → ∃ r χ' σ' τ' b ρ', X7_play n σ τ χ a1 ch = some (r, σ', τ', χ') ∧ X8_play n ρ a1 ch = some (b, ρ') ∧ am_chib χ' = true ∧ hRel n (c + 1) χ' σ' τ' ρ' ∧ ((∃ v, r = some v ∧ ρ' 0 2 = 0 ∧ b = v) ∨ (r = none ∧ ρ' 0 2 = 1)) := fun z1 z2 => ⟨_, _, _, _, _, _, z1, z2.trans fl, hch, hr1, Or.inr ⟨rfl, rfl⟩⟩
  by_cases w1 : a1 < 0
  · refine bad ?_ ?_
    · unfold X7_play X7_play_J10
      rw [if_pos w1]
    · unfold X8_play
      rw [isIn_eq, if_neg (by rw [decide_eq_true_eq]; exact fun q => Int32.not_le.mpr w1 q.1), hR]
  · by_cases w2 : a1 ≤ 16
    · obtain ⟨many, hm, rfl⟩ := nI_of w1
      have hmany : many ≤ 16 := (nI_leI (b := 16) hm (by omega)).mp w2
      have E7 : X7_play n σ τ χ (nI many) ch = X7_play_L23 n n σ τ χ (nI many) ch 0 := by
        unfold X7_play
        rw [if_neg w1, if_pos w2]
      have E8 : X8_play n ρ (nI many) ch = X8_play_L24 n n R (nI many) ch 0 := by
        unfold X8_play
        rw [isIn_eq, if_pos (decide_eq_true ⟨Int32.not_lt.mp w1, w2⟩), hR]
      have PL := play_loop (n := n) (χ := χ) (τ := τ) hn (ch := ch) (R := R) hmany m8 σ2 (by rw [hR]; exact ρ3) many 0 n n (by omega) (by omega) (by omega) (fun j hj => by omega)
      rw [nI_0] at PL
      rcases PL with ⟨q1, q2⟩ | ⟨hv, q1, q2⟩
      · exact bad (E7.trans q1) (E8.trans q2)
      · obtain ⟨S1, hS1⟩ : ∃ S1, S1 = sC σ 0 (am_u (σ 0) 9 1) := ⟨_, rfl⟩
        have S1c : ∀ c, c ≠ 0 → S1 c = σ c := fun c q => by rw [hS1, sC_ne q]
        have okp : okP F (am_sg S1 46) := fun c e1 e2 => by
          have := h1.2.2.1 c e1 e2
          rw [sg_app, if_neg (by omega), if_pos e2] at this ⊢
          rw [S1c _ (by omega)]
          exact this
        have okr : okR H R := fun c e1 e2 => by
          rw [hR, sC_ne (by omega)]
          exact h1.2.2.2.1 c e1 e2
        obtain ⟨P1, P', R1, M, i, cc, w, b, r1, r2, rI, r3, r4, r5, r6, r7, r8, r9, r10⟩ := run_both n hn (τ := am_sg τ 46) (P := am_sg S1 46) (R := R) (room := ρ 0 4) (ch := ch) (many := many) (okP_scr h1.1 okp okr) (rOut_0 N4 (fun s hs => by rw [hR, sC_ne (by omega)]; exact z14 s hs)) m2 m8 (by rw [hR]; exact ρ3) (by rw [hR]) hx9 hy9 (by rw [hR]; exact ρ5) (by rw [hR]; exact ρ6) hmany hv
        obtain ⟨iB, iQ, -, -, iM, ii, iC, ic, i4, i59, i29⟩ := rI
        have R1f : ∀ k, k ≠ 2 → k < 35 ∨ (35 < k ∧ k < 40) ∨ (42 < k ∧ k ≠ 59) → R1 0 k = ρ 0 k := fun k e1 e2 => by
          rw [r9 k e2, hR]
          exact am_u_ne e1
        have R1c : ∀ c, 1 ≤ c → c < 15 ∨ 20 < c → c ≠ 29 → R1 c = ρ c := fun c e1 e2 e3 => by rw [r8 c e1 e2 e3, hR, sC_ne (by omega)]
        obtain ⟨R3, s1, s2, s3⟩ := l70 hn (b := b) iB iQ r3 m 0 n R1 (by omega) (by omega) (fun _ _ _ _ _ => rfl) (fun t ht => by omega)
        rw [nI_0] at s1
        have R3f : R3 0 = R1 0 := s2 0 (by omega) (by omega) (by omega) (by omega)
        obtain ⟨R4, t1, ⟨-, -, t2, t3⟩, z, z1, z2, z3, z4⟩ := r6 R3 (by rw [R3f, R1f 3 (by omega) (by omega)]; exact ρ3) (fun g hg => by
          obtain ⟨w1, w2⟩ := r3 g hg
          obtain ⟨-, t, bb, -, -, -, -, e1, e2, -⟩ := iQ.1 g hg
          exact ⟨w1, w2, (s3 g hg).1, by rw [s2 15 (by omega) (by omega) (by omega) (by omega)]; exact e2.trans e1.symm⟩)
        obtain ⟨g28, u1, -, u3⟩ := l133 hn (b := b) 64 0 n R4 (by omega) (by omega)
        rw [nI_0] at u1
        have cc320 : cc ≤ 320 := Nat.le_trans (Nat.le_trans ic ii) (ph_320 N4 m8 iQ.1)
        obtain ⟨R5, hR5⟩ : ∃ R5, R5 = sC (sC R4 28 g28) 0 (am_u (R4 0) 68 (R4 0 59)) := ⟨_, rfl⟩
        have R459 : R4 0 59 = nI cc := by rw [t3 59 (by omega), R3f]; exact i59
        obtain ⟨g35, y1, -, y3⟩ := l171 hn (b := b) cc320 cc 0 n R5 (by omega) (by omega) (by rw [hR5]; exact R459)
        rw [nI_0] at y1
        obtain ⟨ρ', hρ'⟩ : ∃ ρ', ρ' = sC (sC R5 35 g35) 0 (am_u (am_u (R5 0) 57 (R5 0 3)) 58 (R5 0 8)) := ⟨_, rfl⟩
        have EC : X7_play n σ τ χ (nI many) ch = some (some b, am_pg S1 46 2 P', am_pg τ 46 2 (tR (am_sg τ 46) ch), updN χ 47 18) := by
          rw [E7, q1, ← hS1, σ2, σ3, σ4, σ5, r1]
          rfl
        have ER : X8_play n ρ (nI many) ch = some (b, ρ') := by
          rw [E8, q2, r2]
          dsimp only [Option.bind]
          rw [s1, t1]
          dsimp only [Option.bind]
          rw [u1, ← hR5, y1, hρ']
        have fR4 : ∀ k, k ≠ 60 → R4 0 k = R1 0 k := fun k q => by rw [t3 k q, R3f]
        have fR5 : ∀ k, k ≠ 68 → R5 0 k = R4 0 k := fun k q => by rw [hR5]; exact am_u_ne q
        have f' : ∀ k, k ≠ 57 → k ≠ 58 → k ≠ 60 → k ≠ 68 → ρ' 0 k = R1 0 k := fun k e1 e2 e3 e4 => by
          rw [hρ']
          show am_u (am_u (R5 0) 57 (R5 0 3)) 58 (R5 0 8) k = _
          rw [am_u_ne e2, am_u_ne e1, fR5 k e4, fR4 k e3]
        have c' : ∀ c, c ≠ 0 → c ≠ 35 → c ≠ 28 → c ≠ 30 → c ≠ 32 → ρ' c = R3 c := fun c e1 e2 e3 e4 e5 => by
          rw [hρ', sC_ne e1, sC_ne e2, hR5, sC_ne e1, sC_ne e3]
          exact t2 c e1 e4 e5
        have c1 : ∀ c, 1 ≤ c → c < 15 ∨ 20 < c → c ≠ 29 → c ≠ 35 → c ≠ 28 → c ≠ 30 → c ≠ 32 → c ≠ 31 → c ≠ 33 → c ≠ 34 → ρ' c = ρ c := fun c e0 e1 e2 e3 e4 e5 e6 e7 e8 e9 => by
          rw [c' c (by omega) e3 e4 e5 e6, s2 c (by omega) e7 e8 e9, R1c c e0 e1 e2]
        have f1 : ∀ k, k ≠ 2 → k < 35 ∨ (35 < k ∧ k < 40) ∨ (42 < k ∧ k ≠ 59) → k ≠ 57 → k ≠ 58 → k ≠ 60 → k ≠ 68 → ρ' 0 k = ρ 0 k := fun k e1 e2 e3 e4 e5 e6 => by rw [f' k e3 e4 e5 e6, R1f k e1 e2]
        have lo : ∀ x, x < 18 → (am_pg S1 46 2 P') x = S1 x := fun x hx => by rw [pg_app, if_pos hx]
        have mid : ∀ x, 18 ≤ x → x < 26 → (am_pg S1 46 2 P') x = σ x := fun x e1 e2 => by
          rw [pg_app, if_neg (by omega), if_pos e2, r7 (x - 6) (by omega) (by omega), sg_app, if_neg (by omega), if_pos (by omega), show x - 6 + 6 = x by omega]
          exact S1c x (by omega)
        have hi : ∀ x, 26 ≤ x → x < 46 → (am_pg S1 46 2 P') x = σ x := fun x e1 e2 => by
          rw [pg_app, if_neg (by omega), if_neg (by omega), if_pos (by omega)]
          exact S1c x (by omega)
        have s46 : ∀ x, x < 22 → (am_sg (am_pg S1 46 2 P') 46) x = P' x := fun x hx => by
          rw [sg_app]
          by_cases e1 : x < 12
          · rw [if_pos e1, pg_app, if_neg (by omega), if_neg (by omega), if_neg (by omega), if_pos (by omega), show 46 + x - 46 = x by omega]
          · rw [if_neg e1]
            by_cases e2 : x < 20
            · rw [if_pos e2, pg_app, if_neg (by omega), if_pos (by omega), show x + 6 - 6 = x by omega]
            · rw [if_neg e2, pg_app, if_neg (by omega), if_neg (by omega), if_neg (by omega), if_neg (by omega), if_pos (by omega), show 46 + x - 8 - 46 + 8 = x by omega]
        have ρ'3 : ρ' 0 3 = nI m := (f1 3 (by omega) (by omega) (by omega) (by omega) (by omega) (by omega)).trans ρ3
        have ρ'8 : ρ' 0 8 = ρ 0 8 := f1 8 (by omega) (by omega) (by omega) (by omega) (by omega) (by omega)
        have ρ'57 : ρ' 0 57 = nI m := by
          rw [hρ']
          show R5 0 3 = _
          rw [fR5 3 (by omega), fR4 3 (by omega), R1f 3 (by omega) (by omega)]
          exact ρ3
        have ρ'58 : ρ' 0 58 = ρ 0 8 := by
          rw [hρ']
          show R5 0 8 = _
          rw [fR5 8 (by omega), fR4 8 (by omega), R1f 8 (by omega) (by omega)]
        have P'c : ∀ x, x < 22 → x ≠ 0 → x ≠ 21 → (am_sg (am_pg S1 46 2 P') 46) x = P1 x := fun x e1 e2 e3 => (s46 x e1).trans (r4 x e2 e3)
        have M320 : M ≤ 320 := Nat.le_trans iM (ph_320 N4 m8 iQ.1)
        refine ⟨_, _, _, _, _, _, EC, ER, ?_, ⟨F, H, N, m, x, y, v, tv, kd, nx, ot, G, D, hS_gen (fun x hx => ?_) (fun x e1 e2 => ?_) (fun c e1 e2 => c1 c e1 (by omega) (by omega) (by omega) (by omega) (by omega) (by omega) (by omega) (by omega) (by omega)) (fun k e1 e2 => ?_) ⟨M, M320, ?_⟩ h1, ?_, ?_, ?_, ?_, ?_⟩, Or.inl ⟨_, rfl, ?_, rfl⟩⟩
        · refine hCh_b ⟨?_, ?_, ?_⟩
          · exact h6.1
          · show (18 : Nat) < 200
            omega
          · exact h6.2.2
        · by_cases q : x < 18
          · rw [lo x q, S1c x (by omega)]
          · exact mid x (by omega) (by omega)
        · rw [lo 0 (by omega), hS1]
          exact am_u_ne (by omega)
        · by_cases q : k = 35
          · rw [q, f' 35 (by omega) (by omega) (by omega) (by omega), r10]
            exact h1.2.2.2.2.2.2.2.2.2.2.2.2.2.2.2.2.2.2.2.2.1.symm
          · exact f1 k (by omega) (by omega) (by omega) (by omega) (by omega) (by omega)
        · rw [c' 15 (by omega) (by omega) (by omega) (by omega) (by omega), s2 15 (by omega) (by omega) (by omega) (by omega)]
          exact iQ.2.1.2.2.1
        · have e26 : (am_pg S1 46 2 P') 26 = σ 26 := hi 26 (by omega) (by omega)
          have t26 : (am_pg τ 46 2 (tR (am_sg τ 46) ch)) 26 = τ 26 := by rw [pg_app, if_neg (by omega), if_neg (by omega), if_pos (by omega)]
          unfold hRd at h2 ⊢
          rw [e26, t26]
          refine h2.imp id (fun ⟨q1, m', q2, q3, q4⟩ => ⟨q1, m', q2, q3, vC_congr (fun x hx => ?_) q4⟩)
          rw [sg_app, sg_app]
          by_cases e1 : x < 12
          · rw [if_pos e1, if_pos e1, hi _ (by omega) (by omega)]
          · rw [if_neg e1, if_neg e1]
            by_cases e2 : x < 20
            · rw [if_pos e2, if_pos e2, mid _ (by omega) (by omega)]
            · rw [if_neg e2, if_neg e2, hi _ (by omega) (by omega)]
        · obtain ⟨a1, a2, a3, a4, a5, a6⟩ := h3
          refine ⟨by omega, by rw [f1 7 (by omega) (by omega) (by omega) (by omega) (by omega) (by omega)]; exact a2, by omega, by rw [ρ'8]; exact a4, by rw [f1 47 (by omega) (by omega) (by omega) (by omega) (by omega) (by omega)]; exact a5, fun q => ?_⟩
          rw [f1 47 (by omega) (by omega) (by omega) (by omega) (by omega) (by omega), f1 7 (by omega) (by omega) (by omega) (by omega) (by omega) (by omega)] at q
          rw [f1 4 (by omega) (by omega) (by omega) (by omega) (by omega) (by omega)]
          exact vT_congr (c1 25 (by omega) (by omega) (by omega) (by omega) (by omega) (by omega) (by omega) (by omega) (by omega) (by omega)) (c1 26 (by omega) (by omega) (by omega) (by omega) (by omega) (by omega) (by omega) (by omega) (by omega) (by omega)) (f1 51 (by omega) (by omega) (by omega) (by omega) (by omega) (by omega)) (f1 52 (by omega) (by omega) (by omega) (by omega) (by omega) (by omega)) (f1 53 (by omega) (by omega) (by omega) (by omega) (by omega) (by omega)) (a6 q)
        · unfold hLf at h4 ⊢
          rw [lo 0 (by omega), hS1, show (sC σ 0 (am_u (σ 0) 9 1)) 0 10 = σ 0 10 from (am_u_ne (f := σ 0) (c := 9) (k := 10) (v := 1) (by omega)), ρ'8, f1 56 (by omega) (by omega) (by omega) (by omega) (by omega) (by omega), c1 27 (by omega) (by omega) (by omega) (by omega) (by omega) (by omega) (by omega) (by omega) (by omega) (by omega), show (am_pg τ 46 2 (tR (am_sg τ 46) ch)) 0 = τ 0 by rw [pg_app, if_pos (by omega)]]
          exact h4
        · refine ⟨⟨tv, Nat.le_refl _, by rw [ρ'58]; exact h3.2.2.2.1⟩, Or.inr ⟨?_, by rw [ρ'57, ρ'3], by rw [ρ'58, ρ'8], rfl, ⟨fun g hg => ⟨?_, ?_, fun f hf => ?_, ?_⟩, ⟨z, z1, ?_, ?_, fun x hx => ?_⟩, ⟨cc, cc320, ?_, ?_, fun x hx => ?_⟩⟩⟩⟩
          · rw [lo 0 (by omega), hS1]
          · obtain ⟨a, -, a1, a2⟩ := iC.1 g (by omega)
            rw [P'c 9 (by omega) (by omega) (by omega), c' 33 (by omega) (by omega) (by omega) (by omega) (by omega), (s3 g hg).2.1, a2]
            exact a1
          · rw [P'c 10 (by omega) (by omega) (by omega), c' 34 (by omega) (by omega) (by omega) (by omega) (by omega), (s3 g hg).2.2]
            exact iC.2.1 g (by omega)
          · have e28 : ρ' 28 = g28 := by
              rw [hρ', sC_ne (by omega), sC_ne (by omega), hR5, sC_ne (by omega)]
            rw [e28, u3 _ (Nat.zero_le _) (by omega), t2 15 (by omega) (by omega) (by omega), s2 15 (by omega) (by omega) (by omega) (by omega), P'c 2 (by omega) (by omega) (by omega)]
            obtain ⟨⟨v1, v2, v3, v4, v5⟩, t, bb, -, -, -, -, e1, e2, e3, e4, -⟩ := iQ.1 g hg
            show R1 15 (8 * g + f) = (am_sub P1 1) 1 (13 * g + (if f < 6 then f else f + 2))
            by_cases q0 : f = 0
            · subst q0
              exact e2.trans e1.symm
            · by_cases q1 : f = 1
              · subst q1
                exact e4.trans e3.symm
              · by_cases q6 : f < 6
                · obtain ⟨u, rfl⟩ : ∃ u, f = 2 + u := ⟨f - 2, by omega⟩
                  rw [if_pos q6]
                  rw [← Nat.add_assoc, ← Nat.add_assoc]
                  exact (v1 u (by omega)).symm
                · by_cases q7 : f = 6
                  · subst q7
                    exact v4.symm
                  · have : f = 7 := by omega
                    subst this
                    exact v5.symm
          · obtain ⟨w1, w2⟩ := r3 g hg
            refine ⟨w g, w1, ?_, ?_⟩
            · rw [cg_waits n (S := am_sub P1 1) (S' := am_sub (am_sg (am_pg S1 46 2 P') 46) 1) (fun c hc => P'c (1 + c) (by omega) (by omega) (by omega)) (nI g)]
              exact w2
            · rw [c' 31 (by omega) (by omega) (by omega) (by omega) (by omega)]
              exact (s3 g hg).1
          · rw [s46 0 (by omega)]
            exact z2
          · rw [hρ']
            show R5 0 60 = _
            rw [fR5 60 (by omega)]
            exact z3
          · have e30 : ρ' 30 = R4 30 := by rw [hρ', sC_ne (by omega), sC_ne (by omega), hR5, sC_ne (by omega), sC_ne (by omega)]
            rw [s46 21 (by omega), e30]
            exact z4 x hx
          · rw [s46 0 (by omega), r5 4 (by omega)]
            exact i4
          · have e68 : ρ' 0 68 = R4 0 59 := by rw [hρ', hR5]
            rw [e68, R459]
          · have e35 : ρ' 35 = g35 := by
              rw [hρ', sC_ne (by omega)]
            rw [P'c 20 (by omega) (by omega) (by omega), e35, y3 x (Nat.zero_le _) hx, i29 x hx, hR5, sC_ne (by omega), sC_ne (by omega), t2 29 (by omega) (by omega) (by omega), s2 29 (by omega) (by omega) (by omega) (by omega)]
        · exact ⟨h6.1, by show (18 : Nat) < 200; omega, h6.2.2⟩
        · rw [f' 2 (by omega) (by omega) (by omega) (by omega), r9 2 (by omega), hR]
    · refine bad ?_ ?_
      · unfold X7_play X7_play_J10
        rw [if_neg w1, if_neg w2]
      · unfold X8_play
        rw [isIn_eq, if_neg (by rw [decide_eq_true_eq]; exact fun q => w2 q.2), hR]
end PLAY
