/-! THE LAW'S CASES: the tape is fed -/
def shf (j : Nat) : Int32 := 24 - nI (8 * j)
def byt (a : Int32) (j : Nat) : Int32 := (am_ushr a (shf j)) &&& 255
theorem shf_1 : ∀ j, j < 4 → shf j + (-8) = shf (j + 1) ∧ ¬ shf j < 0 := by decide
theorem shf_e : shf 4 < 0 := by decide
theorem shf_0 : shf 0 = 24 := by decide
theorem shf_r : ∀ l, l < 20 → (24 - (8 * (nI l - nI l / 4 * 4))) &&& 31 = shf (l % 4) := by decide +kernel
theorem and255 (v : Int32) : ∃ b, b < 256 ∧ v &&& 255 = nI b := by
  refine ⟨(v &&& 255).toBitVec.toNat, ?_, ?_⟩
  · show (v.toBitVec &&& 255#32).toNat < 256
    rw [BitVec.toNat_and]
    exact Nat.lt_of_le_of_lt Nat.and_le_right (by decide)
  · apply Int32.toBitVec_inj.mp
    show _ = BitVec.ofNat 32 _
    rw [BitVec.ofNat_toNat, BitVec.setWidth_eq]
theorem f255 : ∀ i, i < 32 → 8 ≤ i → (255#32).getLsbD i = false := by decide
theorem shf_a : ∀ j, j < 4 → ((shf j).toBitVec.smod 32#32).toNat = 24 - 8 * j := by decide +kernel
theorem shf_l : ∀ j, j < 4 → (((shf j).toUInt32 &&& Int32.toUInt32 31).toBitVec % 32#32).toNat = 24 - 8 * j := by decide +kernel
theorem byt_eq (a : Int32) {j : Nat} (hj : j < 4) : (a >>> shf j) &&& 255 = byt a j := by
  unfold byt
  have e1 : (a >>> shf j).toBitVec = a.toBitVec.sshiftRight (24 - 8 * j) := by
    show a.toBitVec.sshiftRight ((shf j).toBitVec.smod 32#32).toNat = _
    rw [shf_a j hj]
  have e2 : (am_ushr a (shf j)).toBitVec = a.toBitVec >>> (24 - 8 * j) := by
    unfold am_ushr
    show a.toBitVec >>> (((shf j).toUInt32 &&& Int32.toUInt32 31).toBitVec % 32#32).toNat = _
    rw [shf_l j hj]
  apply Int32.toBitVec_inj.mp
  show (a >>> shf j).toBitVec &&& 255#32 = (am_ushr a (shf j)).toBitVec &&& 255#32
  rw [e1, e2]
  apply BitVec.eq_of_getLsbD_eq_iff.mpr
  intro i hi
  rw [BitVec.getLsbD_and, BitVec.getLsbD_and]
  by_cases h4 : i < 8
  · rw [BitVec.getLsbD_sshiftRight, BitVec.getLsbD_ushiftRight, if_pos (show 24 - 8 * j + i < 32 by omega), show decide (32 ≤ i) = false from decide_eq_false (by omega)]
    rfl
  · rw [f255 i hi (by omega), Bool.and_false, Bool.and_false]
theorem add_loop (n : Nat) {a : Int32} {f : Nat} (hf : f + 4 ≤ 700) : ∀ (d j K : Nat) (S : am_M), j + d = 4 → d < K → S 0 1 = nI (f + j) → ∃ S', X5_add_L3 n K S a (shf j) = some S' ∧ (∀ c, 2 ≤ c → S' c = S c) ∧ S' 0 1 = nI (f + 4) ∧ (∀ x, x < f + j → S' 1 x = S 1 x) ∧ ∀ i, j ≤ i → i < 4 → S' 1 (f + i) = byt a i := by
  intro d
  induction d with
  | zero =>
    intro j K S hj hK h1
    obtain ⟨K, rfl⟩ : ∃ J, K = J + 1 := ⟨K - 1, by omega⟩
    have e : j = 4 := by omega
    subst e
    refine ⟨S, ?_, fun _ _ => rfl, h1, fun _ _ => rfl, fun i q1 q2 => by omega⟩
    simp only [X5_add_L3, X5_add_B3]
    rw [if_pos shf_e]
  | succ d ih =>
    intro j K S hj hK h1
    obtain ⟨K, rfl⟩ : ∃ J, K = J + 1 := ⟨K - 1, by omega⟩
    obtain ⟨s1, s2⟩ := shf_1 j (by omega)
    obtain ⟨S', i1, i2, i3, i4, i5⟩ := ih (j + 1) K (sC (sC S 0 (am_u (S 0) 1 ((S 0 1) + 1))) 1 (upd (S 1) (f + j) (byt a j))) (by omega) (by omega) (by
      show S 0 1 + 1 = _
      rw [h1, nI_1]
      rfl)
    refine ⟨S', ?_, fun c hc => (i2 c hc).trans (by rw [sC_ne (by omega), sC_ne (by omega)]), i3, fun x hx => (i4 x (by omega)).trans (upd_ne (by omega)), fun i q1 q2 => ?_⟩
    · simp only [X5_add_L3, X5_add_B3]
      rw [if_neg s2, s1, h1, jput_nI (by omega) (by omega)]
      rw [h1] at i1
      exact i1
    · by_cases q : i = j
      · rw [q, i4 (f + j) (by omega)]
        exact upd_eq
      · exact i5 i (by omega) q2
section FEED
variable {n c L : Nat} {xs : Nat → Int32} {kont : (Nat → Nat) → am_M → (Nat → Int64) → (Nat → Int64) → am_M → Int32 → Option Bool} {χ : Nat → Nat} {σ : am_M} {τ o : Nat → Int64} {ρ : am_M} {k : Nat}
/-- four bytes more -/
theorem add4 (hn : 2200 < n) (a : Int32) {f : Nat} (hf : f + 4 ≤ 700) (h1 : σ 2 1 = nI f) : ∃ q, X5_add n (am_sub σ 2) a = some q ∧ (∀ c, c ≠ 2 → c ≠ 3 → (am_put σ 2 5 q) c = σ c) ∧ (am_put σ 2 5 q) 2 1 = nI (f + 4) ∧ (∀ x, x < f → (am_put σ 2 5 q) 3 x = σ 3 x) ∧ ∀ i, i < 4 → (am_put σ 2 5 q) 3 (f + i) = byt a i := by
  obtain ⟨q, i1, i2, i3, i4, i5⟩ := add_loop n (a := a) hf 4 0 n (am_sub σ 2) (by omega) (by omega) h1
  refine ⟨q, ?_, fun c h2 h3 => ?_, ?_, fun x hx => ?_, fun i hi => ?_⟩
  · unfold X5_add
    rw [shf_0] at i1
    exact i1
  · by_cases q1 : 2 ≤ c ∧ c < 2 + 5
    · rw [am_put_in q1.1 q1.2, i2 (c - 2) (by omega)]
      show σ (2 + (c - 2)) = _
      rw [show 2 + (c - 2) = c by omega]
    · rw [am_put_ne (by omega)]
  · rw [am_put_in (by omega) (by omega)]
    exact i3
  · rw [am_put_in (by omega) (by omega)]
    exact i4 x (by omega)
  · rw [am_put_in (by omega) (by omega)]
    exact i5 i (by omega) hi
def wd (a1 a2 a3 a4 a5 : Int32) (l : Nat) : Int32 := if l < 4 then a1 else if l < 8 then a2 else if l < 12 then a3 else if l < 16 then a4 else a5
theorem feed_loop (n : Nat) {a1 a2 a3 a4 a5 : Int32} {f : Nat} (hf : f + 20 ≤ 700) : ∀ (d l K : Nat) (R : am_M), l + d = 20 → d < K → R 0 10 = nI (f + l) → ∃ R', X8_feed_L23 n K R a1 a2 a3 a4 a5 (nI l) = some (nI (f + 20), R') ∧ (∀ c, c ≠ 0 → c ≠ 3 → R' c = R c) ∧ (∀ k, k ≠ 10 → R' 0 k = R 0 k) ∧ R' 0 10 = nI (f + 20) ∧ (∀ x, x < f + l → R' 3 x = R 3 x) ∧ ∀ i, l ≤ i → i < 20 → R' 3 (f + i) = byt (wd a1 a2 a3 a4 a5 i) (i % 4) := by
  intro d
  induction d with
  | zero =>
    intro l K R hl hK h1
    obtain ⟨K, rfl⟩ : ∃ J, K = J + 1 := ⟨K - 1, by omega⟩
    have e : l = 20 := by omega
    subst e
    refine ⟨R, ?_, fun _ _ _ => rfl, fun _ _ => rfl, h1, fun _ _ => rfl, fun i q1 q2 => by omega⟩
    simp only [X8_feed_L23, X8_feed_B23]
    rw [if_pos (show (20 : Int32) ≤ nI 20 by decide), h1]
  | succ d ih =>
    intro l K R hl hK h1
    obtain ⟨K, rfl⟩ : ∃ J, K = J + 1 := ⟨K - 1, by omega⟩
    obtain ⟨R', i1, i2, i3, i4, i5, i6⟩ := ih (l + 1) K (sC (sC R 0 (am_u (R 0) 10 (nI (f + (l + 1))))) 3 (upd (R 3) (f + l) (byt (wd a1 a2 a3 a4 a5 l) (l % 4)))) (by omega) (by omega) rfl
    have j76 : X8_feed_J76 n (X8_feed_L23 n K) R a1 a2 a3 a4 a5 (nI l) (wd a1 a2 a3 a4 a5 l) = some (nI (f + 20), R') := by
      unfold X8_feed_J76
      rw [h1, if_neg (pu_g (n := 700) (by omega) (by omega)), nI_clamp (by omega), shf_r l (by omega), byt_eq _ (show l % 4 < 4 by omega), nI_1, nI_1, show f + l + 1 = f + (l + 1) by omega]
      exact i1
    refine ⟨R', ?_, fun c q1 q2 => (i2 c q1 q2).trans (by rw [sC_ne q2, sC_ne q1]), fun k q => (i3 k q).trans (am_u_ne q), i4, fun x hx => (i5 x (by omega)).trans (upd_ne (by omega)), fun i q1 q2 => ?_⟩
    · have le : ∀ z : Nat, z < 21 → ((nI z ≤ nI l) ↔ z ≤ l) := fun z hz => nI_leI (by omega) (by omega)
      unfold wd at j76
      simp only [X8_feed_L23, X8_feed_B23]
      rw [if_neg (show ¬ (20 : Int32) ≤ nI l from fun q => by have := (le 20 (by omega)).mp q; omega)]
      by_cases c1 : l < 4
      · rw [if_pos c1] at j76
        rw [if_neg (show ¬ (4 : Int32) ≤ nI l from fun q => by have := (le 4 (by omega)).mp q; omega)]
        exact j76
      · rw [if_neg c1] at j76
        rw [if_pos (show (4 : Int32) ≤ nI l from (le 4 (by omega)).mpr (by omega))]
        by_cases c2 : l < 8
        · rw [if_pos c2] at j76
          rw [if_neg (show ¬ (8 : Int32) ≤ nI l from fun q => by have := (le 8 (by omega)).mp q; omega)]
          exact j76
        · rw [if_neg c2] at j76
          rw [if_pos (show (8 : Int32) ≤ nI l from (le 8 (by omega)).mpr (by omega))]
          by_cases c3 : l < 12
          · rw [if_pos c3] at j76
            rw [if_neg (show ¬ (12 : Int32) ≤ nI l from fun q => by have := (le 12 (by omega)).mp q; omega)]
            exact j76
          · rw [if_neg c3] at j76
            rw [if_pos (show (12 : Int32) ≤ nI l from (le 12 (by omega)).mpr (by omega))]
            by_cases c4 : l < 16
            · rw [if_pos c4] at j76
              rw [if_neg (show ¬ (16 : Int32) ≤ nI l from fun q => by have := (le 16 (by omega)).mp q; omega)]
              exact j76
            · rw [if_neg c4] at j76
              rw [if_pos (show (16 : Int32) ≤ nI l from (le 16 (by omega)).mpr (by omega))]
              exact j76
    · by_cases q : i = l
      · rw [q, i5 (f + l) (by omega)]
        exact upd_eq
      · exact i6 i (by omega) q2
theorem hRel_tape {σ' ρ' : am_M} {f : Nat} (e : ∀ c, c ≠ 2 → c ≠ 3 → σ' c = σ c) (r : ∀ c, c ≠ 0 → c ≠ 3 → ρ' c = ρ c) (r0 : ∀ k, k ≠ 10 → ρ' 0 k = ρ 0 k) (hf : f ≤ 700) (t1 : σ' 2 1 = nI f) (t2 : ρ' 0 10 = nI f) (t3 : ∀ k, k < f → σ' 3 k = ρ' 3 k ∧ ∃ b, b < 256 ∧ σ' 3 k = nI b) (h : hRel n c χ σ τ ρ) : hRel n c χ σ' τ ρ' := by
  obtain ⟨F, H, N, m, x, y, v, tv, kd, nx, ot, G, D, h1, h2, h3, h4, h5, h6⟩ := h
  obtain ⟨a1, a2, a3, a4, a5, a6, a7, a8, a9, a10, a11, a12, a13, a14, a15, a16, a17, a18, -, a20, a21, a22⟩ := h1
  have sg : ∀ o, 4 ≤ o → am_sg σ' o = am_sg σ o := fun o ho => by
    funext k
    rw [sg_app, sg_app]
    by_cases h1 : k < 12
    · rw [if_pos h1, if_pos h1, e _ (by omega) (by omega)]
    · rw [if_neg h1, if_neg h1]
      by_cases h2 : k < 20
      · rw [if_pos h2, if_pos h2, e _ (by omega) (by omega)]
      · rw [if_neg h2, if_neg h2, e _ (by omega) (by omega)]
  have e0 : σ' 0 = σ 0 := e 0 (by omega) (by omega)
  refine ⟨F, H, N, m, x, y, v, tv, kd, nx, ot, G, D, ⟨a1, a2, by rw [sg 26 (by omega)]; exact a3, fun c q1 q2 => by rw [r c (by omega) (by omega)]; exact a4 c q1 q2, by rw [e 18 (by omega) (by omega)]; exact a5, by rw [r 14 (by omega) (by omega)]; exact a6, a7, a8, by rw [e0]; exact a9, by rw [r0 3 (by omega)]; exact a10, by rw [e0, r0 4 (by omega)]; exact a11, by rw [r0 4 (by omega)]; exact a12, a13, a14, by rw [e0]; exact a15, by rw [r0 5 (by omega)]; exact a16, by rw [e0]; exact a17, by rw [r0 6 (by omega)]; exact a18, ⟨f, hf, t1, t2, t3⟩, by rw [e 1 (by omega) (by omega), r0 20 (by omega)]; exact a20, by rw [r0 35 (by omega)]; exact a21, by rw [r 15 (by omega) (by omega)]; exact a22⟩, ?_, ?_, ?_, ?_, h6⟩
  · unfold hRd at h2 ⊢
    rw [e 26 (by omega) (by omega), sg 26 (by omega)]
    exact h2
  · unfold hTd at h3 ⊢
    rw [r0 7 (by omega), r0 8 (by omega), r0 47 (by omega), r0 4 (by omega)]
    obtain ⟨a1, a2, a3, a4, a5, a6⟩ := h3
    exact ⟨a1, a2, a3, a4, a5, fun q => vT_congr (r 25 (by omega) (by omega)) (r 26 (by omega) (by omega)) (r0 51 (by omega)) (r0 52 (by omega)) (r0 53 (by omega)) (a6 q)⟩
  · unfold hLf at h4 ⊢
    rw [e0, r0 56 (by omega), r0 8 (by omega), r 27 (by omega) (by omega)]
    exact h4
  · unfold hPl at h5 ⊢
    rw [e0, r0 58 (by omega), r0 57 (by omega), r0 3 (by omega), r0 8 (by omega), sg 46 (by omega)]
    exact ⟨h5.1, h5.2.imp id (fun q => ⟨q.1, q.2.1, q.2.2.1, q.2.2.2.1, plI_congr (r 28 (by omega) (by omega)) (r 30 (by omega) (by omega)) (r 31 (by omega) (by omega)) (r 33 (by omega) (by omega)) (r 34 (by omega) (by omega)) (r 35 (by omega) (by omega)) (r0 60 (by omega)) (r0 68 (by omega)) q.2.2.2.2⟩)⟩
theorem case0 (hn : 2200 < n) (hL : k + 5 < L) (hL2 : L ≤ 3072) (hk : KT n c kont (nI k)) (h : hRel n c χ σ τ ρ) : L_c0 n L xs kont χ σ τ o ρ (nI k) = some true := by
  have hr0 := hRel_ref (rSame_2 (a := 0) (hRel_now h)) h
  have hch := hRel_ch h
  obtain ⟨f, f1, f2, f3, f4⟩ : ∃ f, f ≤ 700 ∧ σ 2 1 = nI f ∧ ρ 0 10 = nI f ∧ ∀ k, k < f → σ 3 k = ρ 3 k ∧ ∃ b, b < 256 ∧ σ 3 k = nI b := by
    obtain ⟨F, H, N, m, x, y, v, tv, kd, nx, ot, G, D, h1, -⟩ := h
    exact h1.2.2.2.2.2.2.2.2.2.2.2.2.2.2.2.2.2.2.1
  unfold L_c0
  rw [nI_1, show nI k + 2 = nI (k + 2) from nI_add k 2, show nI k + 3 = nI (k + 3) from nI_add k 3, show nI k + 4 = nI (k + 4) from nI_add k 4, show nI k + 5 = nI (k + 5) from nI_add k 5, if_neg (pu_g (n := L) (by omega) (by omega)), if_neg (pu_g (n := L) (by omega) (by omega)), if_neg (pu_g (n := L) (by omega) (by omega)), if_neg (pu_g (n := L) (by omega) (by omega)), if_neg (pu_g (n := L) (by omega) (by omega))]
  generalize xs (nI (k + 1)).toNatClampNeg = a1
  generalize xs (nI (k + 2)).toNatClampNeg = a2
  generalize xs (nI (k + 3)).toNatClampNeg = a3
  generalize xs (nI (k + 4)).toNatClampNeg = a4
  generalize xs (nI (k + 5)).toNatClampNeg = a5
  have le7 : ((nI f + 20 ≤ 700) ↔ f + 20 ≤ 700) := by
    rw [show nI f + 20 = nI (f + 20) from nI_add f 20]
    exact nI_leI (b := 700) (by omega) (by omega)
  unfold X7_feed X8_feed
  rw [f2, f3]
  by_cases hf : f + 20 ≤ 700
  · rw [if_pos (le7.mpr hf), if_pos (le7.mpr hf)]
    obtain ⟨q1, u1, v1, w1, x1, y1⟩ := add4 hn a1 (show f + 4 ≤ 700 by omega) f2
    obtain ⟨q2, u2, v2, w2, x2, y2⟩ := add4 hn a2 (show f + 4 + 4 ≤ 700 by omega) w1
    obtain ⟨q3, u3, v3, w3, x3, y3⟩ := add4 hn a3 (show f + 4 + 4 + 4 ≤ 700 by omega) w2
    obtain ⟨q4, u4, v4, w4, x4, y4⟩ := add4 hn a4 (show f + 4 + 4 + 4 + 4 ≤ 700 by omega) w3
    obtain ⟨q5, u5, v5, w5, x5, y5⟩ := add4 hn a5 (show f + 4 + 4 + 4 + 4 + 4 ≤ 700 by omega) w4
    obtain ⟨R', i1, i2, i3, i4, i5, i6⟩ := feed_loop n (a1 := a1) (a2 := a2) (a3 := a3) (a4 := a4) (a5 := a5) hf 20 0 n (sC ρ 0 (am_u (ρ 0) 2 0)) (by omega) (by omega) f3
    rw [nI_0] at i1
    rw [u1]
    dsimp only [Option.bind]
    rw [u2]
    dsimp only
    rw [u3]
    dsimp only
    rw [u4]
    dsimp only
    rw [u5]
    dsimp only
    rw [if_neg (by rw [hch]; decide), i1]
    dsimp only
    rw [if_pos w5]
    refine hk _ _ _ _ _ (hRel_tape (f := f + 20) (fun c z1 z2 => ?_) (fun c z1 z2 => i2 c z1 z2) (fun k z => i3 k z) hf w5 i4 (fun z hz => ?_) hr0)
    · rw [v5 c z1 z2, v4 c z1 z2, v3 c z1 z2, v2 c z1 z2, v1 c z1 z2]
    · have key : (am_put (am_put (am_put (am_put (am_put σ 2 5 q1) 2 5 q2) 2 5 q3) 2 5 q4) 2 5 q5) 3 z = R' 3 z ∧ ∃ b, b < 256 ∧ R' 3 z = nI b := by
        by_cases z0 : z < f
        · obtain ⟨e1, b, e2, e3⟩ := f4 z z0
          have er : R' 3 z = ρ 3 z := i5 z (by omega)
          rw [x5 z (by omega), x4 z (by omega), x3 z (by omega), x2 z (by omega), x1 z (by omega), er]
          exact ⟨e1, b, e2, e1.symm.trans e3⟩
        · obtain ⟨i, rfl⟩ : ∃ i, z = f + i := ⟨z - f, by omega⟩
          have er := i6 i (Nat.zero_le _) (by omega)
          refine ⟨?_, by rw [er]; exact and255 _⟩
          rw [er]
          unfold wd
          by_cases c1 : i < 4
          · rw [x5 _ (by omega), x4 _ (by omega), x3 _ (by omega), x2 _ (by omega), if_pos c1, y1 i c1, show i % 4 = i by omega]
          · rw [if_neg c1]
            by_cases c2 : i < 8
            · rw [x5 _ (by omega), x4 _ (by omega), x3 _ (by omega), if_pos c2, show f + i = f + 4 + (i - 4) by omega, y2 (i - 4) (by omega), show i % 4 = i - 4 by omega]
            · rw [if_neg c2]
              by_cases c3 : i < 12
              · rw [x5 _ (by omega), x4 _ (by omega), if_pos c3, show f + i = f + 4 + 4 + (i - 8) by omega, y3 (i - 8) (by omega), show i % 4 = i - 8 by omega]
              · rw [if_neg c3]
                by_cases c4 : i < 16
                · rw [x5 _ (by omega), if_pos c4, show f + i = f + 4 + 4 + 4 + (i - 12) by omega, y4 (i - 12) (by omega), show i % 4 = i - 12 by omega]
                · rw [if_neg c4, show f + i = f + 4 + 4 + 4 + 4 + (i - 16) by omega, y5 (i - 16) (by omega), show i % 4 = i - 16 by omega]
      obtain ⟨k1, b, k2, k3⟩ := key
      exact ⟨k1, b, k2, k1.trans k3⟩
  · rw [if_neg (fun q => hf (le7.mp q)), if_neg (fun q => hf (le7.mp q))]
    dsimp only [Option.bind]
    rw [if_neg (by rw [hch]; decide), if_pos rfl]
    exact hk _ _ _ _ _ hr0
end FEED
