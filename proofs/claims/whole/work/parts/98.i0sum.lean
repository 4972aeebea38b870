/-! AN EXPR IS READ: products, sums, the whole -/
section EXPR
variable {n : Nat} {b : Nat → Int32} {A K0 z0 q0 k : Nat} {S R : am_M}
theorem okO_T {C J Q : List Int32} {d w i r h : Nat} {R' : am_M} (x : okO n b A K0 z0 q0 S k C J d w Q i r h R R') : ∃ t w', okT n b A K0 z0 q0 S k C J d w Q i r r h R R' t w' := by
  obtain ⟨t, S', C1, P, w', y⟩ := x
  exact ⟨t, w', S', C1, P, y⟩
theorem okT_O {C J Q : List Int32} {d w i r h t w' : Nat} {R' : am_M} (x : okT n b A K0 z0 q0 S k C J d w Q i r r h R R' t w') : okO n b A K0 z0 q0 S k C J d w Q i r h R R' := by
  obtain ⟨S', C1, P, y⟩ := x
  exact ⟨t, S', C1, P, w', y⟩
/-- where it stands, what is seen there -/
theorem okT_rI {C J Q : List Int32} {d w i r s h t w' : Nat} {R' : am_M} (x : okT n b A K0 z0 q0 S k C J d w Q i r s h R R' t w') : k + t ≤ K0 ∧ tkR b A (k + t) R' ∧ R' 0 18 = 0 ∧ stp s (SK b A (tkB b A (k + t))) (w'.testBit d) := by
  obtain ⟨S', C1, P, x1, x2, x3, x4, x5, x6, x7, x8, x9, x10, x11, x12, x13⟩ := x
  exact ⟨x2.1.2.2.1, x4.1, x4.2.1, x12⟩
theorem okT_stp {C J Q : List Int32} {d w i r s s2 h t w' : Nat} {R' : am_M} (x : okT n b A K0 z0 q0 S k C J d w Q i r s h R R' t w') (hs : stp s2 (SK b A (tkB b A (k + t))) (w'.testBit d)) : okT n b A K0 z0 q0 S k C J d w Q i r s2 h R R' t w' := by
  obtain ⟨S', C1, P, x1, x2, x3, x4, x5, x6, x7, x8, x9, x10, x11, x12, x13⟩ := x
  exact ⟨S', C1, P, x1, x2, x3, x4, x5, x6, x7, x8, x9, x10, x11, hs, x13⟩
theorem okT_dn {C J Q : List Int32} {d w i r s h t w' : Nat} {R' : am_M} (hr : r ≤ 2) (x : okT n b A K0 z0 q0 S k C J d w Q i (r + 1) s h R R' t w') : okT n b A K0 z0 q0 S k C J d w Q i r s h R R' t w' := by
  obtain ⟨S', C1, P, x1, x2, x3, x4, x5, x6, x7, x8, x9, x10, x11, x12, x13⟩ := x
  exact ⟨S', C1, P, x1, x2, x3, x4, x5, fun y hy => ⟨fun z => (x6 y hy).1 (Int32.lt_trans z ((nI_ltN (by omega) (by omega)).mpr (by omega))), (x6 y hy).2⟩, by omega, x8, x9, x10, x11, x12, fun e e1 e2 => x13 e e1 (by omega)⟩
theorem preO_up {C J Q : List Int32} {d w i r h : Nat} (hr : r ≤ 2) (x : preO b A K0 z0 q0 S k C J d w Q i r h R) : preO b A K0 z0 q0 S k C J d w Q i (r + 1) h R := by
  obtain ⟨p1, p2, p3, p4, p5, p6, p7, p8⟩ := x
  exact ⟨p1, p2, p3, fun y hy => Int32.lt_trans (p4 y hy) ((nI_ltN (by omega) (by omega)).mpr (by omega)), by omega, by omega, p7, p8⟩
/-- a joint and its right side -/
theorem join_any (hn : 2200 < n) (hK : KB b A K0) {C J Q : List Int32} {d w i r h t o s w1 : Nat} {R1 : am_M} (hd : d < 8) (hr2 : r ≤ 2) (hpre : preO b A K0 z0 q0 S k C J d w Q i r h R) (ok : okT n b A K0 z0 q0 S k C J d w Q i r (r + 1) h R R1 t w1) (hs : SK b A (tkB b A (k + t)) = nI s) (s28 : s ≠ 28) (s356 : s < 356) (o1 : 1 ≤ o) (o6 : o ≤ 6) (hrk : X1_rankOf (-9 - nI o) = nI r) (hj : ∀ bit : Bool, (r = 0 → bit = false) → X1_jointOf_J19 zM (nI s) (if bit = true then 0 else 1) = -9 - nI o) (hb : r = 0 → w1.testBit d = false) {sub : am_M → Option am_M} (hsub : ∀ (S2 : am_M) (k2 : Nat) (C2 J2 : List Int32) (w2 : Nat) (Q2 : List Int32) (i2 h2 : Nat) (R2 : am_M), preO b A K0 z0 q0 S2 k2 C2 J2 d w2 Q2 i2 (r + 1) h2 R2 → ∃ R3, sub R2 = some R3 ∧ (okO n b A K0 z0 q0 S2 k2 C2 J2 d w2 Q2 i2 (r + 1) h2 R2 R3 ∨ noO n K0 q0 S2 k2 i2 1 R2 R3)) : ∃ R2 R3 R4, X8_stepOn n R1 = some R2 ∧ sub R2 = some R3 ∧ X8_emit R3 (nI o) = some R4 ∧ ((∃ t' w', t < t' ∧ okT n b A K0 z0 q0 S k C J d w Q i r (r + 1) h R R4 t' w' ∧ (r = 0 → w'.testBit d = true)) ∨ noO n K0 q0 S k i 1 R R4) := by
  obtain ⟨p1, p2, p3, p4, p5, p6, p7, p8⟩ := hpre
  obtain ⟨S1, C1, P1, f1, y2, f2, y4, f3, y6, y7, f4, f5, b1, b2, y12, f6⟩ := ok
  have w256 := y2.2.2.2.2.2.2.2.2.2
  have j0 : ∀ o, o < 7 → 1 ≤ o → (-9 - nI o : Int32) ≠ 0 := by decide
  have jj : X1_jointOf S1 (nI s) = -9 - nI o := by
    rw [jointOf_C y2]
    exact hj _ hb
  obtain ⟨S2, R2, g1, g2, u1, g3, hp2⟩ := join_pre hn hK (i := i + t) (r := r) (h := h) hd y2 y4 y6 y7 p4 p5 b1 b2 hs s28 s356 jj (j0 o (by omega) o1) hrk (by omega) p6
  obtain ⟨R3, v1, v2⟩ := hsub _ _ _ _ _ _ _ _ _ hp2
  rcases v2 with ⟨t2, S3, C2, P2, w3, h1, h2, h3, h4, h5, h6, h7, h8, h9, h10, h11, h12, h13⟩ | ⟨t2, S3, κ, π, z1, z2, z3, z4, z5, z6, z7, z8, z9⟩
  · have hbit : ∀ e, e < 8 → (e < d ∨ (e = d ∧ 1 ≤ r)) → w3.testBit e = w1.testBit e := fun e e1 e2 => by
      rw [h13 e e1 (by omega)]
      by_cases q : X1_rankOf (-9 - nI o) = 0
      · rw [if_pos q, setB_bit w1 w256 d hd e e1, if_neg]
        intro ed
        rw [hrk] at q
        have := (nI_eq (a := r) (b := 0) (by omega) (by omega)).mp q
        omega
      · rw [if_neg q]
    have hlt : nI r ≤ nI (r + 1) := (nI_leI (by omega) (by omega)).mpr (by omega)
    obtain ⟨R4, e1, e2⟩ := join_post hK (s := r + 1) o1 o6 hd hr2 p6 (by rw [hrk]; exact Int32.lt_irrefl) hlt f1 f2 f3 f4 f5 f6 g1 g2 g3 h1 h2 h3 h4 h5 h6 h7 h8 h9 (by rw [pnd_1 (j0 o (by omega) o1)] at h10; exact h10) (by rw [pnd_1 (j0 o (by omega) o1)] at h11; exact h11) h12 hbit
    refine ⟨R2, R3, R4, u1, v1, e1, Or.inl ⟨t + 1 + t2, w3, by omega, e2, fun q => ?_⟩⟩
    rw [h13 d hd (Or.inr ⟨rfl, by omega⟩), if_pos (by rw [hrk, q]; rfl), setB_bit w1 w256 d hd d hd, if_pos rfl]
  · refine ⟨R2, R3, R3, u1, v1, emit_f (by rw [z7]; exact z3) _, Or.inr ⟨t + 1 + t2, S3, κ, π, fun K => ?_, by omega, z3, z4, z5, z6, z7, z8, fE_t f3 (fE_t g3 z9)⟩⟩
    rw [show K + (t + 1 + t2) = (K + t2 + 1) + t by omega, f1, g1, z1]
theorem noO_18 {i : Nat} {l : Int32} {R' : am_M} (x : noO n K0 q0 S k i l R R') : ¬ R' 0 18 = 0 := by
  obtain ⟨t2, S3, κ, π, z1, z2, z3, z4, z5, z6, z7, z8, z9⟩ := x
  rw [z7]
  exact z3
theorem prod_loop (hn : 2200 < n) (hK : KB b A K0) {d g : Nat} (hd : d < 7) {C J Q : List Int32} {w i h : Nat} (hpre : preO b A K0 z0 q0 S k C J d w Q i 2 h R) (hsub : ∀ (S2 : am_M) (k2 : Nat) (C2 J2 : List Int32) (w2 : Nat) (Q2 : List Int32) (i2 h2 : Nat) (R2 : am_M), preO b A K0 z0 q0 S2 k2 C2 J2 d w2 Q2 i2 (2 + 1) h2 R2 → ∃ R3, X8_readPart n (X8_readExpressionR n g) R2 (nI d) = some R3 ∧ (okO n b A K0 z0 q0 S2 k2 C2 J2 d w2 Q2 i2 (2 + 1) h2 R2 R3 ∨ noO n K0 q0 S2 k2 i2 1 R2 R3)) : ∀ (Kf t w1 : Nat) (R1 : am_M), K0 < Kf + (k + t) → okT n b A K0 z0 q0 S k C J d w Q i 2 (2 + 1) h R R1 t w1 → ∃ R', X8_readProduct_L5 n (X8_readExpressionR n g) Kf R1 (nI d) = some R' ∧ (okO n b A K0 z0 q0 S k C J d w Q i 2 h R R' ∨ noO n K0 q0 S k i 1 R R') := by
  intro Kf
  induction Kf with
  | zero =>
    intro t w1 R1 hk ok
    have := (okT_rI ok).1
    omega
  | succ Kf ih =>
    intro t w1 R1 hk ok
    obtain ⟨kk, x1, x2, x3⟩ := okT_rI ok
    have sg1 : X8_isSign R1 42 = _ := isSign_eq hK.1 hK.2.1 (c := 42) x1 x2 (by omega) (by unfold lst; decide)
    have sg2 : X8_isSign R1 47 = _ := isSign_eq hK.1 hK.2.1 (c := 47) x1 x2 (by omega) (by unfold lst; decide)
    simp only [X8_readProduct_L5, X8_readProduct_B5, X8_readProduct_J23, X8_readProduct_J37]
    rw [sg1, sg2]
    have fin : ∀ R4, ((∃ t' w', t < t' ∧ okT n b A K0 z0 q0 S k C J d w Q i 2 (2 + 1) h R R4 t' w' ∧ (2 = 0 → w'.testBit d = true)) ∨ noO n K0 q0 S k i 1 R R4) → k + t < K0 → ∃ R', X8_readProduct_L5 n (X8_readExpressionR n g) Kf R4 (nI d) = some R' ∧ (okO n b A K0 z0 q0 S k C J d w Q i 2 h R R' ∨ noO n K0 q0 S k i 1 R R') := fun R4 q kl => by
      rcases q with ⟨t', w', l, o, -⟩ | z
      · exact ih t' w' R4 (by omega) o
      · obtain ⟨Kg, rfl⟩ : ∃ J, Kf = J + 1 := ⟨Kf - 1, by omega⟩
        exact ⟨R4, prodL_f n hn _ (noO_18 z) _ Kg, Or.inr z⟩
    have kl : SK b A (tkB b A (k + t)) ≠ 28 → k + t < K0 := fun q => by
      obtain ⟨S1, C1, P1, -, y2, -⟩ := ok
      exact not_end hK y2.1 q
    by_cases q1 : SK b A (tkB b A (k + t)) = nI (100 + 42)
    · rw [decide_eq_true q1, if_pos rfl, if_pos rfl]
      obtain ⟨R2, R3, R4, j1, j2, j3, j4⟩ := join_any hn hK (s := 100 + 42) (o := 3) (r := 2) (by omega) (by omega) hpre ok q1 (by omega) (by omega) (by omega) (by omega) (by decide) (by decide) (by omega) hsub
      rw [j1]
      dsimp only [Option.bind]
      rw [j2]
      dsimp only
      rw [show (3 : Int32) = nI 3 from rfl, j3]
      exact fin R4 j4 (kl (by rw [q1]; decide))
    · rw [decide_eq_false q1, if_neg Bool.false_ne_true, if_neg Bool.false_ne_true]
      by_cases q2 : SK b A (tkB b A (k + t)) = nI (100 + 47)
      · rw [decide_eq_true q2, if_pos rfl]
        obtain ⟨R2, R3, R4, j1, j2, j3, j4⟩ := join_any hn hK (s := 100 + 47) (o := 4) (r := 2) (by omega) (by omega) hpre ok q2 (by omega) (by omega) (by omega) (by omega) (by decide) (by decide) (by omega) hsub
        rw [j1]
        dsimp only [Option.bind]
        rw [j2]
        dsimp only
        rw [show (4 : Int32) = nI 4 from rfl, j3]
        exact fin R4 j4 (kl (by rw [q2]; decide))
      · rw [decide_eq_false q2, if_neg Bool.false_ne_true]
        exact ⟨R1, rfl, Or.inl (okT_O (okT_stp ok ⟨fun _ => ⟨q1, q2⟩, fun q => absurd q (by decide), fun q => absurd q (by decide)⟩))⟩
theorem spec_prod (hn : 2200 < n) (hK : KB b A K0) {d : Nat} (hd : d < 7) (hE : SpecE n b A K0 (d + 1)) {C J : List Int32} {w i h g : Nat} {Q : List Int32} (hpre : preO b A K0 z0 q0 S k C J d w Q i 2 h R) (hg : 9 ≤ g + (d + 1)) : ∃ R', X8_readProduct n (X8_readExpressionR n g) R (nI d) = some R' ∧ (okO n b A K0 z0 q0 S k C J d w Q i 2 h R R' ∨ noO n K0 q0 S k i 1 R R') := by
  obtain ⟨R1, e1, e2⟩ := spec_part hn hK hd hE (preO_up (by omega) hpre) hg
  unfold X8_readProduct
  rw [e1]
  dsimp only [Option.bind]
  rcases e2 with ok | no
  · obtain ⟨t, w1, x⟩ := okO_T ok
    have kk := hK.1
    have kk2 := hK.2.2.1
    exact prod_loop hn hK hd hpre (fun S2 k2 C2 J2 w2 Q2 i2 h2 R2 p => spec_part hn hK hd hE p hg) n t w1 R1 (by omega) (okT_dn (by omega) x)
  · obtain ⟨K, hK'⟩ : ∃ K, n = K + 1 := ⟨n - 1, by omega⟩
    have := prodL_f n hn (X8_readExpressionR n g) (noO_18 no) (nI d) K
    rw [← hK'] at this
    exact ⟨R1, this, Or.inr no⟩
theorem sum_loop (hn : 2200 < n) (hK : KB b A K0) {d g : Nat} (hd : d < 7) {C J Q : List Int32} {w i h : Nat} (hpre : preO b A K0 z0 q0 S k C J d w Q i 1 h R) (hsub : ∀ (S2 : am_M) (k2 : Nat) (C2 J2 : List Int32) (w2 : Nat) (Q2 : List Int32) (i2 h2 : Nat) (R2 : am_M), preO b A K0 z0 q0 S2 k2 C2 J2 d w2 Q2 i2 (1 + 1) h2 R2 → ∃ R3, X8_readProduct n (X8_readExpressionR n g) R2 (nI d) = some R3 ∧ (okO n b A K0 z0 q0 S2 k2 C2 J2 d w2 Q2 i2 (1 + 1) h2 R2 R3 ∨ noO n K0 q0 S2 k2 i2 1 R2 R3)) : ∀ (Kf t w1 : Nat) (R1 : am_M), K0 < Kf + (k + t) → okT n b A K0 z0 q0 S k C J d w Q i 1 (1 + 1) h R R1 t w1 → ∃ R', X8_readSum_L5 n (X8_readExpressionR n g) Kf R1 (nI d) = some R' ∧ (okO n b A K0 z0 q0 S k C J d w Q i 1 h R R' ∨ noO n K0 q0 S k i 1 R R') := by
  intro Kf
  induction Kf with
  | zero =>
    intro t w1 R1 hk ok
    have := (okT_rI ok).1
    omega
  | succ Kf ih =>
    intro t w1 R1 hk ok
    obtain ⟨kk, x1, x2, x3⟩ := okT_rI ok
    have sg1 : X8_isSign R1 43 = _ := isSign_eq hK.1 hK.2.1 (c := 43) x1 x2 (by omega) (by unfold lst; decide)
    have sg2 : X8_isSign R1 45 = _ := isSign_eq hK.1 hK.2.1 (c := 45) x1 x2 (by omega) (by unfold lst; decide)
    simp only [X8_readSum_L5, X8_readSum_B5, X8_readSum_J23, X8_readSum_J37]
    rw [sg1, sg2]
    have fin : ∀ R4, ((∃ t' w', t < t' ∧ okT n b A K0 z0 q0 S k C J d w Q i 1 (1 + 1) h R R4 t' w' ∧ (1 = 0 → w'.testBit d = true)) ∨ noO n K0 q0 S k i 1 R R4) → k + t < K0 → ∃ R', X8_readSum_L5 n (X8_readExpressionR n g) Kf R4 (nI d) = some R' ∧ (okO n b A K0 z0 q0 S k C J d w Q i 1 h R R' ∨ noO n K0 q0 S k i 1 R R') := fun R4 q kl => by
      rcases q with ⟨t', w', l, o, -⟩ | z
      · exact ih t' w' R4 (by omega) o
      · obtain ⟨Kg, rfl⟩ : ∃ J, Kf = J + 1 := ⟨Kf - 1, by omega⟩
        exact ⟨R4, sumL_f n hn _ (noO_18 z) _ Kg, Or.inr z⟩
    have kl : SK b A (tkB b A (k + t)) ≠ 28 → k + t < K0 := fun q => by
      obtain ⟨S1, C1, P1, -, y2, -⟩ := ok
      exact not_end hK y2.1 q
    by_cases q1 : SK b A (tkB b A (k + t)) = nI (100 + 43)
    · rw [decide_eq_true q1, if_pos rfl, if_pos rfl]
      obtain ⟨R2, R3, R4, j1, j2, j3, j4⟩ := join_any hn hK (s := 100 + 43) (o := 1) (r := 1) (by omega) (by omega) hpre ok q1 (by omega) (by omega) (by omega) (by omega) (by decide) (by decide) (by omega) hsub
      rw [j1]
      dsimp only [Option.bind]
      rw [j2]
      dsimp only
      rw [show (1 : Int32) = nI 1 from rfl, j3]
      exact fin R4 j4 (kl (by rw [q1]; decide))
    · rw [decide_eq_false q1, if_neg Bool.false_ne_true, if_neg Bool.false_ne_true]
      by_cases q2 : SK b A (tkB b A (k + t)) = nI (100 + 45)
      · rw [decide_eq_true q2, if_pos rfl]
        obtain ⟨R2, R3, R4, j1, j2, j3, j4⟩ := join_any hn hK (s := 100 + 45) (o := 2) (r := 1) (by omega) (by omega) hpre ok q2 (by omega) (by omega) (by omega) (by omega) (by decide) (by decide) (by omega) hsub
        rw [j1]
        dsimp only [Option.bind]
        rw [j2]
        dsimp only
        rw [show (2 : Int32) = nI 2 from rfl, j3]
        exact fin R4 j4 (kl (by rw [q2]; decide))
      · rw [decide_eq_false q2, if_neg Bool.false_ne_true]
        exact ⟨R1, rfl, Or.inl (okT_O (okT_stp ok ⟨fun _ => x3.1 (by omega), fun _ => ⟨q1, q2⟩, fun q => absurd q (by decide)⟩))⟩
theorem spec_sum (hn : 2200 < n) (hK : KB b A K0) {d : Nat} (hd : d < 7) (hE : SpecE n b A K0 (d + 1)) {C J : List Int32} {w i h g : Nat} {Q : List Int32} (hpre : preO b A K0 z0 q0 S k C J d w Q i 1 h R) (hg : 9 ≤ g + (d + 1)) : ∃ R', X8_readSum n (X8_readExpressionR n g) R (nI d) = some R' ∧ (okO n b A K0 z0 q0 S k C J d w Q i 1 h R R' ∨ noO n K0 q0 S k i 1 R R') := by
  obtain ⟨R1, e1, e2⟩ := spec_prod hn hK hd hE (preO_up (by omega) hpre) hg
  unfold X8_readSum
  rw [e1]
  dsimp only [Option.bind]
  rcases e2 with ok | no
  · obtain ⟨t, w1, x⟩ := okO_T ok
    have kk := hK.1
    have kk2 := hK.2.2.1
    exact sum_loop hn hK hd hpre (fun S2 k2 C2 J2 w2 Q2 i2 h2 R2 p => spec_prod hn hK hd hE p hg) n t w1 R1 (by omega) (okT_dn (by omega) x)
  · obtain ⟨K, hK'⟩ : ∃ K, n = K + 1 := ⟨n - 1, by omega⟩
    have := sumL_f n hn (X8_readExpressionR n g) (noO_18 no) (nI d) K
    rw [← hK'] at this
    exact ⟨R1, this, Or.inr no⟩
end EXPR
