/-! THE RING from its start; a whole PLAY -/
theorem l33 (n : Nat) {a1 : Int32} : ∀ (d i K : Nat) (R : am_M), i + d = 8 → d < K → (∀ x, x < i → R 32 x = -1) → ∃ g, X8_tellRing_L33 n K R a1 (nI i) = X8_tellRing_L54 n n (sC R 32 g) a1 0 ∧ ∀ x, x < 8 → g x = -1 := by
  intro d
  induction d with
  | zero =>
    intro i K R hi hK hR
    obtain ⟨K, rfl⟩ : ∃ J, K = J + 1 := ⟨K - 1, by omega⟩
    refine ⟨R 32, ?_, fun x hx => hR x (by omega)⟩
    simp only [X8_tellRing_L33, X8_tellRing_B33]
    rw [if_pos (show (8 : Int32) ≤ nI i by rw [show (8 : Int32) = nI 8 from rfl, pu_le (by omega) (by omega)]; omega), sC_self]
  | succ d ih =>
    intro i K R hi hK hR
    obtain ⟨K, rfl⟩ : ∃ J, K = J + 1 := ⟨K - 1, by omega⟩
    simp only [X8_tellRing_L33, X8_tellRing_B33]
    rw [if_neg (show ¬ (8 : Int32) ≤ nI i by rw [show (8 : Int32) = nI 8 from rfl, pu_le (by omega) (by omega)]; omega), if_neg (pu_g (n := 8) (by omega) (by omega)), nI_clamp (by omega), nI_1]
    obtain ⟨g, e1, e2⟩ := ih (i + 1) K (sC R 32 (upd (R 32) i (-1))) (by omega) (by omega) (fun x hx => by
      show upd (R 32) i (-1) x = -1
      by_cases q : x = i
      · rw [q, upd_eq]
      · rw [upd_ne q]; exact hR x (by omega))
    rw [sC_sC] at e1
    exact ⟨g, e1, e2⟩
theorem l7 (n : Nat) {R : am_M} {m p : Nat} (m8 : m ≤ 8) (h3 : R 0 3 = nI m) (hp : p ≤ m) (hb : ∀ q, q < p → R 15 (8 * q + 0) = -1) (hs : p < m → R 15 (8 * p + 0) ≠ -1) : ∀ (d h K : Nat), h + d = p → d < K → X8_tellRing_L7 n K R (nI h) = X8_tellRing_J31 n R (nI p) := by
  intro d
  induction d with
  | zero =>
    intro h K hh hK
    obtain ⟨K, rfl⟩ : ∃ J, K = J + 1 := ⟨K - 1, by omega⟩
    have e : h = p := by omega
    simp only [X8_tellRing_L7, X8_tellRing_B7]
    rw [h3, e]
    by_cases q : p < m
    · rw [if_neg (by rw [pu_le (by omega) (by omega)]; omega), X8_o0 (by omega)]
      dsimp only [Option.bind]
      rw [if_neg (hs q)]
    · rw [if_pos (by rw [pu_le (by omega) (by omega)]; omega)]
  | succ d ih =>
    intro h K hh hK
    obtain ⟨K, rfl⟩ : ∃ J, K = J + 1 := ⟨K - 1, by omega⟩
    simp only [X8_tellRing_L7, X8_tellRing_B7]
    rw [h3, if_neg (by rw [pu_le (by omega) (by omega)]; omega), X8_o0 (by omega), hb h (by omega)]
    dsimp only [Option.bind]
    rw [if_pos rfl, nI_1]
    exact ih (h + 1) K (by omega) (by omega)
theorem ring_one (n : Nat) (hn : 2200 < n) {m : Nat} {P R : am_M} {w : Nat → Nat} (m8 : m ≤ 8) (hP : P 1 1 = nI m) (hR : R 0 3 = nI m) (hW : wtI n (am_sub P 1) R m w) : ∃ P' R', X0_findRing n P = some P' ∧ X8_tellRing n R = some R' ∧ rFr P P' R R' ∧ rgF P' R' := by
  obtain ⟨P0, hP0⟩ : ∃ P0, P0 = sC P 0 (am_u (P 0) 6 0) := ⟨_, rfl⟩
  obtain ⟨R0, hR0⟩ : ∃ R0, R0 = sC R 0 (am_u (R 0) 60 0) := ⟨_, rfl⟩
  have hS : am_sub P0 1 = am_sub P 1 := funext fun c => by
    show P0 (1 + c) = P (1 + c)
    rw [hP0, sC_ne (by omega)]
  have R0c : ∀ c, c ≠ 0 → R0 c = R c := fun c q => by rw [hR0, sC_ne q]
  have R03 : R0 0 3 = nI m := by rw [hR0]; exact hR
  have hu := ubn_lt (S := am_sub P 1) m m8
  have hc : X0_findRing n P = (X0_lowest n (nI (ubn (am_sub P 1) m))).bind (fun q2 => X0_findRing_L20 n n P0 0 q2 0) := by
    unfold X0_findRing
    rw [← hP0, hS, unended_eq n hn m8 hP]
    rfl
  have hAT : ∀ h, h < m → R0 15 (8 * h + 0) = (am_sub P 1) 1 (13 * h + 0) := fun h hh => by
    rw [R0c 15 (by omega)]; exact (hW h hh).2.2.2
  have hr : ∀ p, p ≤ m → (∀ q, q < p → R0 15 (8 * q + 0) = -1) → (p < m → R0 15 (8 * p + 0) ≠ -1) → ∃ g, X8_tellRing n R = X8_tellRing_L54 n n (sC R0 32 g) (nI p) 0 ∧ ∀ x, x < 8 → g x = -1 := fun p hp h1 h2 => by
    have e := l7 n m8 R03 hp h1 h2 p 0 n (by omega) (by omega)
    obtain ⟨g, g1, g2⟩ := l33 n (a1 := nI p) 8 0 n R0 (by omega) (by omega) (fun x hx => by omega)
    refine ⟨g, ?_, g2⟩
    unfold X8_tellRing
    rw [← hR0, ← nI_0, e]
    unfold X8_tellRing_J31
    rw [← nI_0] at g1 ⊢
    exact g1
  have frR : ∀ (g : Nat → Int32) (P' R' : am_M), rFr P0 P' (sC R0 32 g) R' → rFr P P' R R' := fun g P' R' f => rFr_t ⟨fun c q1 q2 => by rw [hP0, sC_ne q1], fun k q => by rw [hP0]; exact am_u_ne q, fun c q1 q2 q3 => by rw [sC_ne q3, R0c c q1], fun k q => by
    show R0 0 k = R 0 k
    rw [hR0]; exact am_u_ne q⟩ f
  rcases lowest_eq n hn hu with ⟨p, p1, p2, p3, p4⟩ | ⟨z, p4⟩
  · obtain ⟨pm, pe⟩ := (ubn_bit m m8 p p1).mp p2
    obtain ⟨g, g1, g2⟩ := hr p (by omega) (fun q hq => by
      rw [hAT q (by omega)]
      exact Classical.byContradiction fun ne => by
        have := (ubn_bit m m8 q (by omega)).mpr ⟨by omega, ne⟩
        rw [p3 q hq] at this
        exact absurd this (by decide)) (fun _ => by rw [hAT p pm]; exact pe)
    obtain ⟨P', R', a1, a2, a3, a4⟩ := ring_loop n hn (w := w) m8 8 0 p n n P0 (sC R0 32 g) (fun _ => 0) (by omega) (by omega) (by omega) ⟨by rw [hP0]; exact hP, R03, by rw [hP0], by
      show R0 0 60 = 0
      rw [hR0], fun h hh => by
      obtain ⟨w1, w2, w3, w4⟩ := hW h hh
      refine ⟨w1, by rw [hS]; exact w2, ?_, ?_⟩
      · show R0 31 h = _
        rw [R0c 31 (by omega)]; exact w3
      · show R0 15 (8 * h + 0) = _
        rw [hAT h hh, hS], fun i hi => by omega, fun x hx ne => absurd (g2 x hx) ne, seenN_none 8 g2⟩ p1
    rw [nI_0] at a1 a2
    refine ⟨P', R', ?_, g1.trans a2, frR g P' R' a3, a4⟩
    rw [hc, p4]
    exact a1
  · obtain ⟨g, g1, g2⟩ := hr m (Nat.le_refl _) (fun q hq => by
      rw [hAT q hq]
      exact Classical.byContradiction fun ne => by
        have := (ubn_bit m m8 q (by omega)).mpr ⟨hq, ne⟩
        rw [z, Nat.zero_testBit] at this
        exact absurd this (by decide)) (fun q => by omega)
    obtain ⟨K, hK⟩ : ∃ K, n = K + 1 := ⟨n - 1, by omega⟩
    have eL : X8_tellRing_L54 n n (sC R0 32 g) (nI m) 0 = some (sC R0 32 g) := by
      have : ∀ K, X8_tellRing_L54 n (K + 1) (sC R0 32 g) (nI m) 0 = some (sC R0 32 g) := fun K => by
        simp only [X8_tellRing_L54, X8_tellRing_B54, X8_tellRing_J134]
        rw [show (sC R0 32 g) 0 3 = nI m from R03, if_pos (Int32.le_refl _), if_pos (Int32.le_refl _)]
      have h2 := this K
      rw [← hK] at h2
      exact h2
    have cL : X0_findRing_L20 n n P0 0 (-1) 0 = some P0 := by
      have : ∀ K, X0_findRing_L20 n (K + 1) P0 0 (-1) 0 = some P0 := fun K => by
        simp only [X0_findRing_L20, X0_findRing_B20]
        rw [if_neg (by decide), if_pos True.intro]
      have h2 := this K
      rw [← hK] at h2
      exact h2
    refine ⟨P0, sC R0 32 g, ?_, g1.trans eL, frR g P0 _ rFr_r, ⟨0, by omega, by rw [hP0]; rfl, by
      show R0 0 60 = _
      rw [hR0]; rfl, fun x hx => by omega⟩⟩
    rw [hc, p4]
    exact cL
/-- the class's ring, whatever the reference holds besides -/
theorem ring_both (n : Nat) (hn : 2200 < n) {m : Nat} {P : am_M} {w : Nat → Nat} (m8 : m ≤ 8) (hP : P 1 1 = nI m) (hw : ∀ h, h < m → w h < 256 ∧ X2_waitsFor n (am_sub P 1) (nI h) = some (nI (w h))) : ∃ P', X0_findRing n P = some P' ∧ (∀ c, c ≠ 0 → c ≠ 21 → P' c = P c) ∧ (∀ k, k ≠ 6 → P' 0 k = P 0 k) ∧ ∀ R, R 0 3 = nI m → wtI n (am_sub P 1) R m w → ∃ R', X8_tellRing n R = some R' ∧ rFr P P' R R' ∧ rgF P' R' := by
  obtain ⟨R0, hR0⟩ : ∃ R0 : am_M, R0 0 3 = nI m ∧ wtI n (am_sub P 1) R0 m w := by
    refine ⟨sC (sC (sC (fun _ _ => 0) 0 (am_u (fun _ => 0) 3 (nI m))) 31 (fun h => nI (w h))) 15 (fun x => (am_sub P 1) 1 (13 * (x / 8) + 0)), rfl, fun h hh => ⟨(hw h hh).1, (hw h hh).2, rfl, ?_⟩⟩
    show (am_sub P 1) 1 (13 * ((8 * h + 0) / 8) + 0) = _
    rw [show (8 * h + 0) / 8 = h by omega]
  obtain ⟨P', R', a1, a2, a3, a4⟩ := ring_one n hn m8 hP hR0.1 hR0.2
  refine ⟨P', a1, a3.1, a3.2.1, fun R h1 h2 => ?_⟩
  obtain ⟨P2, R2, b1, b2, b3, b4⟩ := ring_one n hn m8 hP h1 h2
  have : P2 = P' := Option.some.inj (b1.symm.trans a1)
  subst this
  exact ⟨R2, b2, b3, b4⟩
theorem run_zero (n : Nat) {l1 : Int32} {ch : Int64} : ∀ (d i K : Nat) (R : am_M), i + d = 8 → d < K → (∀ x, x < i → R 17 x = 0 ∧ R 18 x = 0 ∧ R 19 x = 0) → ∃ a b c, X8_run_L3 n K R l1 ch (nI i) = (X8_begin n (sC (sC (sC R 17 a) 18 b) 19 c)).bind (fun q2 => X8_run_L55 n n (sC q2 0 (am_u (q2 0) 59 0)) l1 ch 0 1) ∧ ∀ x, x < 8 → a x = 0 ∧ b x = 0 ∧ c x = 0 := by
  intro d
  induction d with
  | zero =>
    intro i K R hi hK hR
    obtain ⟨K, rfl⟩ : ∃ J, K = J + 1 := ⟨K - 1, by omega⟩
    refine ⟨R 17, R 18, R 19, ?_, fun x hx => hR x (by omega)⟩
    simp only [X8_run_L3, X8_run_B3]
    rw [if_pos (show (8 : Int32) ≤ nI i by rw [show (8 : Int32) = nI 8 from rfl, pu_le (by omega) (by omega)]; omega)]
    have e1 : sC (sC (sC R 17 (R 17)) 18 (R 18)) 19 (R 19) = R := by rw [sC_self, sC_self, sC_self]
    rw [e1]
  | succ d ih =>
    intro i K R hi hK hR
    obtain ⟨K, rfl⟩ : ∃ J, K = J + 1 := ⟨K - 1, by omega⟩
    obtain ⟨R1, hR1⟩ : ∃ R1, R1 = sC (sC (sC R 17 (upd (R 17) i 0)) 18 (upd (R 18) i 0)) 19 (upd (R 19) i 0) := ⟨_, rfl⟩
    obtain ⟨a, b, c, e1, e2⟩ := ih (i + 1) K R1 (by omega) (by omega) (fun x hx => by
      rw [hR1]
      show upd (R 17) i 0 x = 0 ∧ upd (R 18) i 0 x = 0 ∧ upd (R 19) i 0 x = 0
      by_cases q : x = i
      · rw [q, upd_eq, upd_eq, upd_eq]; exact ⟨rfl, rfl, rfl⟩
      · rw [upd_ne q, upd_ne q, upd_ne q]; exact hR x (by omega))
    have e3 : sC (sC (sC R1 17 a) 18 b) 19 c = sC (sC (sC R 17 a) 18 b) 19 c := by
      funext k
      rw [hR1]
      simp only [sC_app]
      split
      · rfl
      · split
        · rfl
        · split
          · rfl
          · rfl
    rw [e3] at e1
    refine ⟨a, b, c, ?_, e2⟩
    rw [← e1]
    simp only [X8_run_L3, X8_run_B3]
    rw [if_neg (show ¬ (8 : Int32) ≤ nI i by rw [show (8 : Int32) = nI 8 from rfl, pu_le (by omega) (by omega)]; omega), if_neg (pu_g (n := 8) (by omega) (by omega)), if_neg (pu_g (n := 8) (by omega) (by omega)), if_neg (pu_g (n := 8) (by omega) (by omega)), nI_clamp (by omega), nI_1, hR1]
def tR (τ : Nat → Int64) (ch : Int64) : Nat → Int64 := upd64 (upd64 τ 0 ch) 1 0
/-- a whole PLAY -/
theorem run_both (n : Nat) (hn : 2200 < n) {τ : Nat → Int64} {P R : am_M} {N m many x y : Nat} {kd nx ot : Nat → Nat} {G : Nat → Nat → List Int32} {room : Int32} {ch : Int64} (hs : rScr n (am_sub P 1) R N kd nx ot G) (ho : rOut (fun _ => 0) R N kd) (m2 : 2 ≤ m) (m8 : m ≤ 8) (h3 : R 0 3 = nI m) (h4 : R 0 4 = room) (hx : x ≤ 99) (hy : y ≤ 99) (h5 : R 0 5 = nI x) (h6 : R 0 6 = nI y) (hmany : many ≤ 16) (hv : ∀ i, i < many → ∃ k, k < m ∧ chv ch i = nI k) :
    ∃ P1 P' R' M i c w v, X0_run n P τ (nI m) room (nI x) (nI y) (nI many) ch = some (v, P', tR τ ch) ∧ X8_run n R (nI many) ch = some (v, R') ∧ pI n (tR τ ch) P1 R' N m kd nx ot G M i c ∧ (∀ h, h < m → w h < 256 ∧ X2_waitsFor n (am_sub P1 1) (nI h) = some (nI (w h))) ∧ (∀ c, c ≠ 0 → c ≠ 21 → P' c = P1 c) ∧ (∀ k, k ≠ 6 → P' 0 k = P1 0 k) ∧ (∀ R, R 0 3 = nI m → wtI n (am_sub P1 1) R m w → ∃ R2, X8_tellRing n R = some R2 ∧ rFr P1 P' R R2 ∧ rgF P' R2) ∧ (∀ c, 12 ≤ c → c < 20 → P' c = P c) ∧ (∀ c, 1 ≤ c → c < 15 ∨ 20 < c → c ≠ 29 → R' c = R c) ∧ (∀ k, k < 35 ∨ (35 < k ∧ k < 40) ∨ (42 < k ∧ k ≠ 59) → R' 0 k = R 0 k) ∧ R' 0 35 = -1 := by
  have hN4 := hs.1
  obtain ⟨Pa, hPa⟩ : ∃ Pa, Pa = sC P 0 (am_u (am_u (P 0) 1 (nI many)) 4 0) := ⟨_, rfl⟩
  obtain ⟨a, b, c, z1, z2⟩ := run_zero n (l1 := nI many) (ch := ch) 8 0 n R (by omega) (by omega) (fun x hx => by omega)
  rw [nI_0] at z1
  obtain ⟨Rz, hRz⟩ : ∃ Rz, Rz = sC (sC (sC R 17 a) 18 b) 19 c := ⟨_, rfl⟩
  rw [← hRz] at z1
  have rz : ∀ c, c ≠ 17 → c ≠ 18 → c ≠ 19 → Rz c = R c := fun c q1 q2 q3 => by rw [hRz, sC_ne q3, sC_ne q2, sC_ne q1]
  have pa : ∀ c, c ≠ 0 → Pa c = P c := fun c q => by rw [hPa, sC_ne q]
  obtain ⟨S', σ', b1, b2, b3, b4, b5, b6, b7, b8, b9, b10, b11, b12, b13, b14, b15, b16⟩ := begin_both n hn (τ := am_sub (upd64 τ 0 ch) 1) (S := am_sub Pa 1) (σ := Rz) (room := room) (near := nI x) (wide := nI y) (out := 0) (rScr_congr (S := am_sub P 1) (σ := R) (fun c q1 q2 => pa (1 + c) (by omega)) (fun c q1 q2 => rz c (by omega) (by omega) (by omega)) hs) (rOut_t (τ := fun _ => 0) (σ := R) rfl (rz 14 (by omega) (by omega) (by omega)) ho) m2 m8 (by rw [rz 0 (by omega) (by omega) (by omega)]; exact h3) (by rw [rz 0 (by omega) (by omega) (by omega)]; exact h4)
  obtain ⟨Q, hQ⟩ : ∃ Q, Q = am_put Pa 1 19 S' := ⟨_, rfl⟩
  have Qo : ∀ c, c < 1 ∨ 20 ≤ c → Q c = Pa c := fun c hc => by rw [hQ, am_put_ne (by omega)]
  have Qs : ∀ c, c < 19 → Q (1 + c) = S' c := fun c hc => by
    rw [hQ, am_put_in (by omega) (by omega), show 1 + c - 1 = c by omega]
  have QS : am_sub Q 1 = S' := by rw [hQ]; exact sub_put (fun c hc => b8 c (by omega))
  obtain ⟨R1, hR1⟩ : ∃ R1, R1 = sC σ' 0 (am_u (σ' 0) 59 0) := ⟨_, rfl⟩
  have r1 : ∀ c, c ≠ 0 → R1 c = σ' c := fun c q => by rw [hR1, sC_ne q]
  have r10 : ∀ k, k ≠ 59 → R1 0 k = σ' 0 k := fun k q => by rw [hR1]; exact am_u_ne q
  have hτ : am_put (upd64 τ 0 ch) 1 19 (upd64 (am_sub (upd64 τ 0 ch) 1) 0 0) = tR τ ch := by
    funext k
    unfold tR
    rw [upd64_app]
    by_cases q : k = 1
    · subst q
      rw [am_put_in (by omega) (by omega), upd64_app, if_pos rfl, if_pos rfl]
    · rw [if_neg q]
      by_cases q2 : 1 ≤ k ∧ k < 20
      · rw [am_put_in q2.1 (by omega), upd64_app, if_neg (by omega)]
        show upd64 τ 0 ch (1 + (k - 1)) = _
        rw [show 1 + (k - 1) = k by omega]
      · rw [am_put_ne (by omega)]
  have hτ1 : am_sub (tR τ ch) 1 = upd64 (am_sub (upd64 τ 0 ch) 1) 0 0 := by
    rw [← hτ]
    exact sub_put (fun c hc => by rw [upd64_app, if_neg (by omega)])
  have hτ0 : tR τ ch 0 = ch := by
    unfold tR
    rw [upd64_app, if_neg (by omega), upd64_app, if_pos rfl]
  have hI : pI n (tR τ ch) Q R1 N m kd nx ot G 0 0 0 := by
    refine ⟨?_, ?_, ?_, ?_, Nat.zero_le _, Nat.zero_le _, ⟨fun h hh => ⟨0, by omega, ?_, ?_⟩, fun h hh => ?_, fun h hh => ⟨0, by omega, ?_, ?_⟩, fun k hk => by omega, ⟨x, hx, ?_, ?_⟩, ⟨y, hy, ?_, ?_⟩⟩, Nat.le_refl _, ?_, ?_, fun x hx => by omega⟩
    · rw [hτ1, QS]
      exact rB_congr (S := S') (σ := σ') (fun _ _ _ => rfl) rfl rfl (fun c q1 q2 => r1 c (by omega)) (r10 3 (by omega)) (r10 4 (by omega)) b3
    · rw [QS]
      exact rQ_congr (S := S') (σ := σ') m8 rfl (fun _ _ _ => rfl) (r1 15 (by omega)) b4
    · exact (congrFun (Qs 0 (by omega)) 15).trans b5
    · intro j q1 q2
      rw [r1 15 (by omega)]
      exact b6 j q1 q2
    · rw [QS]; exact (b14 h hh).1
    · rw [r1 17 (by omega), b9 17 (by omega) (by omega), hRz]
      exact (z2 h hh).1
    · rw [QS, (b14 h hh).2.1, r1 18 (by omega), b9 18 (by omega) (by omega), hRz]
      exact (z2 h hh).2.1.symm
    · rw [QS]; exact (b14 h hh).2.2
    · rw [r1 19 (by omega), b9 19 (by omega) (by omega), hRz]
      exact (z2 h hh).2.2
    · rw [QS]; exact b12
    · rw [r10 5 (by omega), b9 0 (by omega) (by omega), rz 0 (by omega) (by omega) (by omega)]; exact h5
    · rw [QS]; exact b13
    · rw [r10 6 (by omega), b9 0 (by omega) (by omega), rz 0 (by omega) (by omega) (by omega)]; exact h6
    · rw [Qo 0 (by omega), hPa]; rfl
    · rw [hR1]; rfl
  obtain ⟨P1, R', M, i, cc, l1, l2, l3, l4, l5⟩ := ploop n hn (τ := tR τ ch) hmany (by rw [hτ0]; exact hv) 320 0 n n Q R1 0 0 (by omega) (by omega) (by omega) (by rw [Qo 0 (by omega), hPa]) hI
  rw [nI_0] at l1 l2
  rw [hτ0] at l2
  have hI3 := l3
  obtain ⟨i1, i2, i3, i4, i5, i6, i7, i8, i9, i10, i11⟩ := l3
  have hSm : P1 1 1 = nI m := i1.2.2.2.2.1
  have hk : X8_kindNow n R' = some (knd (am_sub P1 1) m) := kindNow_eq n hn m8 i1.2.2.2.2.2.1 (fun h hh => by rw [hd_fld (i2.1 h hh) 0 (by omega)]; rfl) (fun h hh => by rw [hd_fld (i2.1 h hh) 1 (by omega)]; rfl)
  obtain ⟨w, hw⟩ : ∃ w : Nat → Nat, ∀ h, h < m → w h < 256 ∧ X2_waitsFor n (am_sub P1 1) (nI h) = some (nI (w h)) := by
    have : ∀ h, ∃ b, h < m → b < 256 ∧ X2_waitsFor n (am_sub P1 1) (nI h) = some (nI b) := fun h => by
      by_cases hh : h < m
      · obtain ⟨b, st', q1, q2, -⟩ := waits_both n hn i1 i2 hh
        exact ⟨b, fun _ => ⟨q1, q2⟩⟩
      · exact ⟨0, fun q => absurd q hh⟩
    exact Classical.axiomOfChoice this
  obtain ⟨P', f1, f2, f3, f4⟩ := ring_both n hn m8 hSm hw
  refine ⟨P1, P', R', M, i, cc, w, knd (am_sub P1 1) m, ?_, ?_, hI3, hw, f2, f3, f4, fun c q1 q2 => ?_, fun c q1 q2 q3 => ?_, fun k q => ?_, l5⟩
  · unfold X0_run
    rw [← hPa, b1]
    dsimp only [Option.bind]
    rw [hτ, ← hQ, l1]
    unfold X0_run_J59
    rw [f1]
    dsimp only [Option.bind]
    have hSS : X2_outcome n (am_sub P' 1) = some (knd (am_sub P1 1) m) := by
      have e := outcome_eq n hn (S := am_sub P' 1) (m := m) m8 (by
        show P' 1 1 = nI m
        rw [f2 1 (by omega) (by omega)]; exact hSm)
      rw [e, knd_congr (S := am_sub P1 1) (S' := am_sub P' 1) (fun k _ => congrFun (f2 2 (by omega) (by omega)) k)]
    rw [hSS]
  · unfold X8_run
    rw [z1, b2]
    dsimp only [Option.bind]
    rw [← hR1, l2, hk]
    rfl
  · rw [f2 c (by omega) (by omega), l4.1 c q1 (by omega), show c = 1 + (c - 1) by omega, Qs (c - 1) (by omega), b8 (c - 1) (by omega)]
    exact pa (1 + (c - 1)) (by omega)
  · rw [l4.2.2.2.1 c q1 q2 q3, r1 c (by omega), b9 c (by omega) (by omega), rz c (by omega) (by omega) (by omega)]
  · rw [l4.2.2.2.2 k q, r10 k (by omega), b9 0 (by omega) (by omega), rz 0 (by omega) (by omega) (by omega)]
