/-! THE RING -/
theorem pu_gn {i n : Nat} (h : i < n) (hn : i < 2 ^ 31) : ¬ (nI i < 0 ∨ n ≤ i) := by
  have := pu_g h hn
  rw [nI_clamp hn] at this
  exact this
theorem low_bit : ∀ b, b < 256 → ∀ o, o < 8 → (((nI b >>> (nI o &&& 31)) &&& 1 = 1) ↔ b.testBit o = true) := bit_get
theorem low_bit0 : ∀ b, b < 256 → ∀ o, o < 8 → (((nI b >>> (nI o &&& 31)) &&& 1 = 0) ↔ b.testBit o = false) := by decide +kernel
/-- the class: the lowest bit -/
theorem lowest_loop (n : Nat) {b : Nat} (hb : b < 256) : ∀ (d o K : Nat), o + d = 8 → d < K → (∃ p, o ≤ p ∧ p < 8 ∧ b.testBit p = true ∧ (∀ q, o ≤ q → q < p → b.testBit q = false) ∧ X0_lowest_L2 n K (nI b) (nI o) = some (nI p)) ∨ ((∀ q, o ≤ q → q < 8 → b.testBit q = false) ∧ X0_lowest_L2 n K (nI b) (nI o) = some (-1)) := by
  intro d
  induction d with
  | zero =>
    intro o K ho hK
    obtain ⟨K, rfl⟩ : ∃ J, K = J + 1 := ⟨K - 1, by omega⟩
    refine Or.inr ⟨fun q h1 h2 => by omega, ?_⟩
    simp only [X0_lowest_L2, X0_lowest_B2]
    rw [if_pos (show (8 : Int32) ≤ nI o by rw [show (8 : Int32) = nI 8 from rfl, pu_le (by omega) (by omega)]; omega)]
  | succ d ih =>
    intro o K ho hK
    obtain ⟨K, rfl⟩ : ∃ J, K = J + 1 := ⟨K - 1, by omega⟩
    have e : X0_lowest_L2 n (K + 1) (nI b) (nI o) = if (nI b >>> (nI o &&& 31)) &&& 1 = 1 then some (nI o) else X0_lowest_L2 n K (nI b) (nI (o + 1)) := by
      simp only [X0_lowest_L2, X0_lowest_B2]
      rw [if_neg (show ¬ (8 : Int32) ≤ nI o by rw [show (8 : Int32) = nI 8 from rfl, pu_le (by omega) (by omega)]; omega), nI_1]
    have hbit := low_bit b hb o (by omega)
    by_cases q : b.testBit o = true
    · rw [e, if_pos (hbit.mpr q)]
      exact Or.inl ⟨o, Nat.le_refl _, by omega, q, fun x h1 h2 => by omega, rfl⟩
    · have qf : b.testBit o = false := Bool.eq_false_iff.mpr q
      rw [e, if_neg (fun z => q (hbit.mp z))]
      rcases ih (o + 1) K (by omega) (by omega) with ⟨p, p1, p2, p3, p4, p5⟩ | ⟨p1, p2⟩
      · refine Or.inl ⟨p, by omega, p2, p3, fun x h1 h2 => ?_, p5⟩
        by_cases z : x = o
        · rw [z]; exact qf
        · exact p4 x (by omega) h2
      · refine Or.inr ⟨fun x h1 h2 => ?_, p2⟩
        by_cases z : x = o
        · rw [z]; exact qf
        · exact p1 x (by omega) h2
theorem lowest_eq (n : Nat) (hn : 2200 < n) {b : Nat} (hb : b < 256) : (∃ p, p < 8 ∧ b.testBit p = true ∧ (∀ q, q < p → b.testBit q = false) ∧ X0_lowest n (nI b) = some (nI p)) ∨ (b = 0 ∧ X0_lowest n (nI b) = some (-1)) := by
  have L := lowest_loop n hb 8 0 n (by omega) (by omega)
  rw [nI_0] at L
  rcases L with ⟨p, -, p2, p3, p4, p5⟩ | ⟨p1, p2⟩
  · exact Or.inl ⟨p, p2, p3, fun q hq => p4 q (Nat.zero_le _) hq, p5⟩
  · exact Or.inr ⟨bit0 b hb (fun j hj => p1 j (Nat.zero_le _) hj), p2⟩
/-- the reference: the lowest bit -/
theorem l110 (n : Nat) {k54 : am_M → Int32 → Int32 → Option am_M} {R : am_M} {h b p : Nat} {c : Int32} (hh : h < 8) (hb : b < 256) (h31 : R 31 h = nI b) (hp : p < 8) (hpb : b.testBit p = true) (hlow : ∀ q, q < p → b.testBit q = false) : ∀ (d o K : Nat), o + d = p → d < K → X8_tellRing_L110 n k54 K R (nI h) c (nI o) = k54 R (nI p) c := by
  intro d
  induction d with
  | zero =>
    intro o K ho hK
    obtain ⟨K, rfl⟩ : ∃ J, K = J + 1 := ⟨K - 1, by omega⟩
    have e : o = p := by omega
    simp only [X8_tellRing_L110, X8_tellRing_B110]
    rw [if_neg (pu_g (n := 8) (by omega) (by omega)), nI_clamp (by omega), h31, e, if_neg (fun z => by
      have := (low_bit0 b hb p hp).mp z
      rw [hpb] at this
      exact absurd this (by decide))]
  | succ d ih =>
    intro o K ho hK
    obtain ⟨K, rfl⟩ : ∃ J, K = J + 1 := ⟨K - 1, by omega⟩
    simp only [X8_tellRing_L110, X8_tellRing_B110]
    rw [if_neg (pu_g (n := 8) (by omega) (by omega)), nI_clamp (by omega), h31, if_pos ((low_bit0 b hb o (by omega)).mpr (hlow o (by omega))), nI_1]
    exact ih (o + 1) K (by omega) (by omega)
theorem place_loop (n : Nat) {P : am_M} {hs : Nat → Nat} {s h : Nat} (hs8 : s ≤ 8) (hh : h < 8) (hP : ∀ i, i < s → hs i < 8 ∧ P 21 i = nI (hs i)) : ∀ (d i K : Nat), i + d = s → d < K → (∃ p, i ≤ p ∧ p < s ∧ hs p = h ∧ X0_placeInRing_L2 n P K (nI h) (nI s) (nI i) = some (nI p)) ∨ ((∀ q, i ≤ q → q < s → hs q ≠ h) ∧ X0_placeInRing_L2 n P K (nI h) (nI s) (nI i) = some (-1)) := by
  intro d
  induction d with
  | zero =>
    intro i K hi hK
    obtain ⟨K, rfl⟩ : ∃ J, K = J + 1 := ⟨K - 1, by omega⟩
    refine Or.inr ⟨fun q h1 h2 => by omega, ?_⟩
    simp only [X0_placeInRing_L2, X0_placeInRing_B2]
    rw [if_pos (by rw [pu_le (by omega) (by omega)]; omega)]
  | succ d ih =>
    intro i K hi hK
    obtain ⟨K, rfl⟩ : ∃ J, K = J + 1 := ⟨K - 1, by omega⟩
    obtain ⟨a1, a2⟩ := hP i (by omega)
    have e : X0_placeInRing_L2 n P (K + 1) (nI h) (nI s) (nI i) = if nI (hs i) = nI h then some (nI i) else X0_placeInRing_L2 n P K (nI h) (nI s) (nI (i + 1)) := by
      simp only [X0_placeInRing_L2, X0_placeInRing_B2]
      rw [if_neg (by rw [pu_le (by omega) (by omega)]; omega), jat_nI (by omega) (by omega), a2, nI_1]
    by_cases q : hs i = h
    · rw [e, if_pos (by rw [q])]
      exact Or.inl ⟨i, Nat.le_refl _, by omega, q, rfl⟩
    · rw [e, if_neg (fun z => q ((nI_eq (by omega) (by omega)).mp z))]
      rcases ih (i + 1) K (by omega) (by omega) with ⟨p, p1, p2, p3, p4⟩ | ⟨p1, p2⟩
      · exact Or.inl ⟨p, by omega, p2, p3, p4⟩
      · refine Or.inr ⟨fun x h1 h2 => ?_, p2⟩
        by_cases z : x = i
        · rw [z]; exact q
        · exact p1 x (by omega) h2
theorem keepC (n : Nat) {fst z : Nat} (hz : fst + z ≤ 8) : ∀ (d i K : Nat) (P : am_M), i + d = z → d < K → P 0 6 = nI z → ∃ g, X0_keepRing_L9 n K P (nI fst) (nI i) = some (sC P 21 g) ∧ (∀ x, x < i → g x = P 21 x) ∧ (∀ x, i ≤ x → x < z → g x = P 21 (fst + x)) := by
  intro d
  induction d with
  | zero =>
    intro i K P hi hK hP
    obtain ⟨K, rfl⟩ : ∃ J, K = J + 1 := ⟨K - 1, by omega⟩
    refine ⟨P 21, ?_, fun _ _ => rfl, fun x h1 h2 => by omega⟩
    simp only [X0_keepRing_L9, X0_keepRing_B9]
    rw [hP, if_pos (by rw [pu_le (by omega) (by omega)]; omega), sC_self]
  | succ d ih =>
    intro i K P hi hK hP
    obtain ⟨K, rfl⟩ : ∃ J, K = J + 1 := ⟨K - 1, by omega⟩
    simp only [X0_keepRing_L9, X0_keepRing_B9]
    rw [hP, if_neg (by rw [pu_le (by omega) (by omega)]; omega), nI_add, jat_nI (by omega) (by omega), jput_nI (by omega) (by omega), nI_1]
    obtain ⟨g, e1, e2, e3⟩ := ih (i + 1) K (sC P 21 (upd (P 21) i (P 21 (fst + i)))) (by omega) (by omega) hP
    rw [sC_sC] at e1
    have e2' : ∀ x, x < i + 1 → g x = upd (P 21) i (P 21 (fst + i)) x := e2
    have e3' : ∀ x, i + 1 ≤ x → x < z → g x = upd (P 21) i (P 21 (fst + i)) (fst + x) := e3
    refine ⟨g, e1, fun x hx => ?_, fun x h1 h2 => ?_⟩
    · rw [e2' x (by omega), upd_ne (by omega)]
    · by_cases q : x = i
      · rw [q, e2' i (by omega), upd_eq]
      · rw [e3' x (by omega) h2, upd_ne (by omega)]
theorem keepR (n : Nat) {fst z : Nat} (hz : fst + z ≤ 8) : ∀ (d i K : Nat) (R : am_M), i + d = z → d < K → R 0 60 = nI z → ∃ g, X8_tellRing_L179 n K R (nI fst) (nI i) = some (sC R 30 g) ∧ (∀ x, x < i → g x = R 30 x) ∧ (∀ x, i ≤ x → x < z → g x = R 30 (fst + x)) := by
  intro d
  induction d with
  | zero =>
    intro i K R hi hK hR
    obtain ⟨K, rfl⟩ : ∃ J, K = J + 1 := ⟨K - 1, by omega⟩
    refine ⟨R 30, ?_, fun _ _ => rfl, fun x h1 h2 => by omega⟩
    simp only [X8_tellRing_L179, X8_tellRing_B179]
    rw [hR, if_pos (by rw [pu_le (by omega) (by omega)]; omega), sC_self]
  | succ d ih =>
    intro i K R hi hK hR
    obtain ⟨K, rfl⟩ : ∃ J, K = J + 1 := ⟨K - 1, by omega⟩
    simp only [X8_tellRing_L179, X8_tellRing_B179]
    rw [hR, if_neg (by rw [pu_le (by omega) (by omega)]; omega), nI_add, if_neg (pu_g (n := 8) (by omega) (by omega)), if_neg (pu_g (n := 8) (by omega) (by omega)), nI_clamp (by omega), nI_clamp (by omega), nI_1]
    obtain ⟨g, e1, e2, e3⟩ := ih (i + 1) K (sC R 30 (upd (R 30) i (R 30 (fst + i)))) (by omega) (by omega) hR
    rw [sC_sC] at e1
    have e2' : ∀ x, x < i + 1 → g x = upd (R 30) i (R 30 (fst + i)) x := e2
    have e3' : ∀ x, i + 1 ≤ x → x < z → g x = upd (R 30) i (R 30 (fst + i)) (fst + x) := e3
    refine ⟨g, e1, fun x hx => ?_, fun x h1 h2 => ?_⟩
    · rw [e2' x (by omega), upd_ne (by omega)]
    · by_cases q : x = i
      · rw [q, e2' i (by omega), upd_eq]
      · rw [e3' x (by omega) h2, upd_ne (by omega)]
/-- how many have been seen -/
def seenN (f : Nat → Int32) : Nat → Nat
  | 0 => 0
  | k + 1 => seenN f k + (if f k = -1 then 0 else 1)
theorem seenN_le {f : Nat → Int32} : ∀ k, seenN f k ≤ k := by
  intro k
  induction k with
  | zero => exact Nat.le_refl _
  | succ k ih =>
    show seenN f k + _ ≤ k + 1
    split <;> omega
theorem seenN_none {f : Nat → Int32} : ∀ k, (∀ x, x < k → f x = -1) → seenN f k = 0 := by
  intro k
  induction k with
  | zero => intro _; rfl
  | succ k ih =>
    intro h
    show seenN f k + _ = 0
    rw [ih (fun x hx => h x (by omega)), if_pos (h k (by omega))]
theorem seenN_upd {f : Nat → Int32} {h : Nat} {v : Int32} (hf : f h = -1) (hv : v ≠ -1) : ∀ k, seenN (upd f h v) k = seenN f k + (if h < k then 1 else 0) := by
  intro k
  induction k with
  | zero => rfl
  | succ k ih =>
    show seenN (upd f h v) k + (if upd f h v k = -1 then 0 else 1) = seenN f k + (if f k = -1 then 0 else 1) + (if h < k + 1 then 1 else 0)
    rw [ih]
    by_cases e : k = h
    · rw [e, upd_eq, if_neg hv, hf, if_pos rfl, if_neg (show ¬ h < h by omega), if_pos (show h < h + 1 by omega)]
    · rw [upd_ne e]
      by_cases q : h < k
      · rw [if_pos q, if_pos (show h < k + 1 by omega)]; omega
      · rw [if_neg q, if_neg (show ¬ h < k + 1 by omega)]; omega
/-- for whom each HAND waits, in both -/
def wtI (n : Nat) (S R : am_M) (m : Nat) (w : Nat → Nat) : Prop := ∀ h, h < m → w h < 256 ∧ X2_waitsFor n S (nI h) = some (nI (w h)) ∧ R 31 h = nI (w h) ∧ R 15 (8 * h + 0) = S 1 (13 * h + 0)
theorem wf_no (n : Nat) {S : am_M} {m h : Nat} (hm : S 0 1 = nI m) (m8 : m ≤ 8) (h1 : m ≤ h) (h2 : h < 8) : X2_waitsFor n S (nI h) = some 0 := by
  unfold X2_waitsFor
  have : X2_doing S (nI h) = -1 := by
    unfold X2_doing
    rw [X2_isHand_eq hm m8 (by omega), decide_eq_false (by omega), if_neg (by decide)]
  rw [this, if_neg (by decide), if_neg (by decide), if_neg (by decide), if_neg (by decide), if_neg (by decide), if_neg (by decide), if_neg (by decide), if_neg (by decide)]
/-- what the ring tells, in both -/
def rgF (P R : am_M) : Prop := ∃ z, z ≤ 8 ∧ P 0 6 = nI z ∧ R 0 60 = nI z ∧ ∀ x, x < z → P 21 x = R 30 x
def rFr (P P' R R' : am_M) : Prop := (∀ c, c ≠ 0 → c ≠ 21 → P' c = P c) ∧ (∀ k, k ≠ 6 → P' 0 k = P 0 k) ∧ (∀ c, c ≠ 0 → c ≠ 30 → c ≠ 32 → R' c = R c) ∧ ∀ k, k ≠ 60 → R' 0 k = R 0 k
theorem rFr_r {P R : am_M} : rFr P P R R := ⟨fun _ _ _ => rfl, fun _ _ => rfl, fun _ _ _ _ => rfl, fun _ _ => rfl⟩
theorem rFr_t {P P' P2 R R' R2 : am_M} (a : rFr P P' R R') (b : rFr P' P2 R' R2) : rFr P P2 R R2 := ⟨fun c h1 h2 => (b.1 c h1 h2).trans (a.1 c h1 h2), fun k h => (b.2.1 k h).trans (a.2.1 k h), fun c h1 h2 h3 => (b.2.2.1 c h1 h2 h3).trans (a.2.2.1 c h1 h2 h3), fun k h => (b.2.2.2 k h).trans (a.2.2.2 k h)⟩
def ringI (n : Nat) (P R : am_M) (m : Nat) (w : Nat → Nat) (s : Nat) (hs : Nat → Nat) : Prop := P 1 1 = nI m ∧ R 0 3 = nI m ∧ P 0 6 = 0 ∧ R 0 60 = 0 ∧ wtI n (am_sub P 1) R m w ∧ (∀ i, i < s → hs i < m ∧ w (hs i) ≠ 0 ∧ P 21 i = nI (hs i) ∧ R 30 i = nI (hs i) ∧ R 32 (hs i) = nI i) ∧ (∀ x, x < 8 → R 32 x ≠ -1 → ∃ i, i < s ∧ hs i = x) ∧ seenN (R 32) 8 = s
theorem ring_step (n : Nat) (hn : 2200 < n) {m s h Kc Kr : Nat} {P R : am_M} {w hs : Nat → Nat} (m8 : m ≤ 8) (hI : ringI n P R m w s hs) (hh : h < 8) (hKc : 0 < Kc) :
    (∃ P' R', X0_findRing_L20 n (Kc + 1) P (nI s) (nI h) (nI s) = some P' ∧ X8_tellRing_L54 n (Kr + 1) R (nI h) (nI s) = some R' ∧ rFr P P' R R' ∧ rgF P' R') ∨ (∃ o P1 R1 hs1, o < 8 ∧ s < 8 ∧ X0_findRing_L20 n (Kc + 1) P (nI s) (nI h) (nI s) = X0_findRing_L20 n Kc P1 (nI (s + 1)) (nI o) (nI (s + 1)) ∧ X8_tellRing_L54 n (Kr + 1) R (nI h) (nI s) = X8_tellRing_L54 n Kr R1 (nI o) (nI (s + 1)) ∧ ringI n P1 R1 m w (s + 1) hs1 ∧ rFr P P1 R R1) := by
  obtain ⟨h1, h2, h3, h4, h5, h6, h7, h8⟩ := hI
  have s8 : s ≤ 8 := by rw [← h8]; exact seenN_le 8
  have n8 : ¬ (8 : Int32) < nI s := by rw [show (8 : Int32) = nI 8 from rfl, pu_lt (by omega) (by omega)]; omega
  have hE := X2_hasEnded_eq (S := am_sub P 1) hh
  have h0 : rgF P R := ⟨0, by omega, by rw [h3]; rfl, by rw [h4]; rfl, fun x hx => by omega⟩
  -- nobody behind: the class puts the HAND into its row and ends
  have addend : (∀ i, i < s → hs i ≠ h) → X2_waitsFor n (am_sub P 1) (nI h) = some 0 → ¬ (am_sub P 1) 1 (13 * h + 0) = -1 → ∃ P', X0_findRing_L20 n (Kc + 1) P (nI s) (nI h) (nI s) = some P' ∧ rFr P P' R R ∧ rgF P' R := fun no hw he => by
    obtain ⟨Kc, rfl⟩ : ∃ J, Kc = J + 1 := ⟨Kc - 1, by omega⟩
    refine ⟨sC P 21 (jput 8 (P 21) (nI s) (nI h)), ?_, ⟨fun c q1 q2 => sC_ne q2, fun _ _ => rfl, fun _ _ _ _ => rfl, fun _ _ => rfl⟩, ⟨0, by omega, by rw [show (sC P 21 (jput 8 (P 21) (nI s) (nI h))) 0 6 = P 0 6 from rfl, h3]; rfl, by rw [h4]; rfl, fun x hx => by omega⟩⟩
    have hp := place_loop n (P := P) (hs := hs) (h := h) s8 hh (fun i hi => ⟨by have := (h6 i hi).1; omega, (h6 i hi).2.2.1⟩) s 0 n (by omega) (by omega)
    rw [nI_0] at hp
    have hp2 : X0_placeInRing n P (nI h) (nI s) = some (-1) := by
      rcases hp with ⟨p, p1, p2, p3, p4⟩ | ⟨p1, p2⟩
      · exact absurd p3 (no p p2)
      · exact p2
    have hl : X0_lowest n (nI 0) = some (-1) := by
      rcases lowest_eq n hn (b := 0) (by omega) with ⟨p, p1, p2, -⟩ | ⟨-, q⟩
      · rw [Nat.zero_testBit] at p2; exact absurd p2 (by decide)
      · exact q
    rw [nI_0] at hl
    have hw' : X2_waitsFor n (am_sub (sC P 21 (jput 8 (P 21) (nI s) (nI h))) 1) (nI h) = some 0 := by
      rw [← hw]
      exact cg_waits n (fun c hc => sC_ne (by omega)) _
    simp only [X0_findRing_L20, X0_findRing_B20]
    rw [if_neg n8, if_neg (pu_ne1 (by omega)), hE, decide_eq_false he, if_neg (by decide), hp2]
    dsimp only [Option.bind]
    rw [if_pos rfl, hw']
    dsimp only
    rw [hl]
    dsimp only
    split <;> rfl
  by_cases hm : h < m
  · obtain ⟨w1, w2, w3, w4⟩ := h5 h hm
    have eown : X8_own R (nI h) 0 = some ((am_sub P 1) 1 (13 * h + 0)) := by rw [X8_o0 hh, w4]
    by_cases he : (am_sub P 1) 1 (13 * h + 0) = -1
    · refine Or.inl ⟨P, R, ?_, ?_, rFr_r, h0⟩
      · simp only [X0_findRing_L20, X0_findRing_B20]
        rw [if_neg n8, if_neg (pu_ne1 (by omega)), hE, decide_eq_true he, if_pos rfl]
      · simp only [X8_tellRing_L54, X8_tellRing_B54, X8_tellRing_J134]
        rw [h2, if_neg (by rw [pu_le (by omega) (by omega)]; omega), eown]
        dsimp only [Option.bind]
        rw [if_pos he, if_neg (by rw [pu_le (by omega) (by omega)]; omega)]
        rw [if_pos he]
    · by_cases hw : w h = 0
      · have noS : ∀ i, i < s → hs i ≠ h := fun i hi q => (h6 i hi).2.1 (by rw [q]; exact hw)
        obtain ⟨P', p1, p2, p3⟩ := addend noS (by rw [w2, hw]; rfl) he
        refine Or.inl ⟨P', R, p1, ?_, p2, p3⟩
        simp only [X8_tellRing_L54, X8_tellRing_B54, X8_tellRing_J134]
        rw [h2, if_neg (by rw [pu_le (by omega) (by omega)]; omega), eown]
        dsimp only [Option.bind]
        rw [if_neg he, if_neg (pu_g (n := 8) (by omega) (by omega)), nI_clamp (by omega), w3, hw, if_pos (show nI 0 = (0 : Int32) from rfl), if_neg (by rw [pu_le (by omega) (by omega)]; omega)]
        rw [if_neg he, if_neg (pu_gn (show h < 8 by omega) (by omega)), if_pos (show nI 0 = (0 : Int32) from rfl)]
      · have hw0 : ¬ nI (w h) = 0 := fun q => hw (by rw [← nI_0] at q; exact (nI_eq (by omega) (by omega)).mp q)
        have hp := place_loop n (P := P) (hs := hs) (h := h) s8 hh (fun i hi => ⟨by have := (h6 i hi).1; omega, (h6 i hi).2.2.1⟩) s 0 n (by omega) (by omega)
        rw [nI_0] at hp
        by_cases hseen : R 32 h = -1
        · -- a new one
          have noS : ∀ i, i < s → hs i ≠ h := fun i hi q => by
            have := (h6 i hi).2.2.2.2
            rw [q, hseen] at this
            exact pu_ne1 (p := i) (by omega) this.symm
          have hp2 : X0_placeInRing n P (nI h) (nI s) = some (-1) := by
            rcases hp with ⟨p, p1, p2, p3, p4⟩ | ⟨p1, p2⟩
            · exact absurd p3 (noS p p2)
            · exact p2
          have hcnt : seenN (upd (R 32) h (nI s)) 8 = s + 1 := by
            rw [seenN_upd hseen (pu_ne1 (by omega)) 8, h8, if_pos hh]
          have s7 : s < 8 := by
            have := seenN_le (f := upd (R 32) h (nI s)) 8
            omega
          obtain ⟨o, o1, o2, o3, o4⟩ : ∃ o, o < 8 ∧ (w h).testBit o = true ∧ (∀ q, q < o → (w h).testBit q = false) ∧ X0_lowest n (nI (w h)) = some (nI o) := by
            rcases lowest_eq n hn w1 with q | ⟨q, -⟩
            · exact q
            · exact absurd q hw
          obtain ⟨P1, hP1⟩ : ∃ P1, P1 = sC P 21 (upd (P 21) s (nI h)) := ⟨_, rfl⟩
          obtain ⟨R1, hR1⟩ : ∃ R1, R1 = sC (sC R 30 (upd (R 30) s (nI h))) 32 (upd (R 32) h (nI s)) := ⟨_, rfl⟩
          have P1c : ∀ c, c ≠ 21 → P1 c = P c := fun c q => by rw [hP1, sC_ne q]
          have R1c : ∀ c, c ≠ 30 → c ≠ 32 → R1 c = R c := fun c q1 q2 => by rw [hR1, sC_ne q2, sC_ne q1]
          have P121 : P1 21 = upd (P 21) s (nI h) := by rw [hP1]
          have R130 : R1 30 = upd (R 30) s (nI h) := by rw [hR1]
          have R132 : R1 32 = upd (R 32) h (nI s) := by rw [hR1]
          refine Or.inr ⟨o, P1, R1, fun i => if i = s then h else hs i, o1, s7, ?_, ?_, ⟨by rw [P1c 1 (by omega)]; exact h1, by rw [R1c 0 (by omega) (by omega)]; exact h2, by rw [P1c 0 (by omega)]; exact h3, by rw [R1c 0 (by omega) (by omega)]; exact h4, fun x hx => ?_, fun i hi => ?_, fun x hx hne => ?_, by rw [R132]; exact hcnt⟩, ⟨fun c q1 q2 => P1c c q2, fun k _ => by rw [P1c 0 (by omega)], fun c q1 q2 q3 => R1c c q2 q3, fun k _ => by rw [R1c 0 (by omega) (by omega)]⟩⟩
          · simp only [X0_findRing_L20, X0_findRing_B20]
            rw [if_neg n8, if_neg (pu_ne1 (by omega)), hE, decide_eq_false he, if_neg (by decide), hp2]
            dsimp only [Option.bind]
            rw [if_pos rfl, jput_nI (by omega) (by omega), ← hP1, cg_waits n (S := am_sub P 1) (S' := am_sub P1 1) (fun c hc => P1c (1 + c) (by omega)) (nI h), w2]
            dsimp only
            rw [o4]
            dsimp only
            rw [nI_1]
          · simp only [X8_tellRing_L54, X8_tellRing_B54]
            rw [h2, if_neg (by rw [pu_le (by omega) (by omega)]; omega), eown]
            dsimp only [Option.bind]
            rw [if_neg he, if_neg (pu_g (n := 8) (by omega) (by omega)), nI_clamp (by omega), w3, if_neg hw0, if_neg (pu_gn (show h < 8 by omega) (by omega)), hseen, if_pos rfl, if_neg (pu_gn (show h < 8 by omega) (by omega)), if_neg (pu_g (n := 8) (by omega) (by omega)), nI_clamp (by omega), nI_1, ← hR1]
            have := l110 n (k54 := X8_tellRing_L54 n Kr) (R := R1) (c := nI (s + 1)) hh w1 (by rw [R1c 31 (by omega) (by omega)]; exact w3) o1 o2 o3 o 0 n (by omega) (by omega)
            rw [nI_0] at this
            exact this
          · obtain ⟨x1, x2, x3, x4⟩ := h5 x hx
            refine ⟨x1, ?_, by rw [R1c 31 (by omega) (by omega)]; exact x3, ?_⟩
            · rw [cg_waits n (S := am_sub P 1) (S' := am_sub P1 1) (fun c hc => P1c (1 + c) (by omega)) (nI x)]
              exact x2
            · rw [R1c 15 (by omega) (by omega), x4]
              exact congrFun (P1c 2 (by omega)).symm _
          · by_cases q : i = s
            · dsimp only
              rw [if_pos q, P121, R130, R132, q, upd_eq, upd_eq, upd_eq]
              exact ⟨hm, hw, rfl, rfl, rfl⟩
            · dsimp only
              obtain ⟨y1, y2, y3, y4, y5⟩ := h6 i (by omega)
              rw [if_neg q, P121, R130, R132, upd_ne q, upd_ne q, upd_ne (noS i (by omega))]
              exact ⟨y1, y2, y3, y4, y5⟩
          · rw [R132] at hne
            by_cases q : x = h
            · exact ⟨s, by omega, by dsimp only; rw [if_pos rfl, q]⟩
            · rw [upd_ne q] at hne
              obtain ⟨i, i1, i2⟩ := h7 x hx hne
              exact ⟨i, by omega, by dsimp only; rw [if_neg (by omega)]; exact i2⟩
        · -- one that came before
          obtain ⟨i, i1, i2⟩ := h7 h hh hseen
          have hp2 : ∃ p, p < s ∧ hs p = h ∧ X0_placeInRing n P (nI h) (nI s) = some (nI p) := by
            rcases hp with ⟨p, p1, p2, p3, p4⟩ | ⟨p1, p2⟩
            · exact ⟨p, p2, p3, p4⟩
            · exact absurd i2 (p1 i (Nat.zero_le _) i1)
          obtain ⟨p, p1, p2, p3⟩ := hp2
          have h32 : R 32 h = nI p := by
            have := (h6 p p1).2.2.2.2
            rw [p2] at this; exact this
          obtain ⟨z, rfl⟩ : ∃ z, s = p + z := ⟨s - p, by omega⟩
          obtain ⟨g, g1, g2, g3⟩ := keepC n (fst := p) (z := z) s8 z 0 n (sC P 0 (am_u (P 0) 6 (nI z))) (by omega) (by omega) rfl
          obtain ⟨gr, r1, r2, r3⟩ := keepR n (fst := p) (z := z) s8 z 0 n (sC R 0 (am_u (R 0) 60 (nI z))) (by omega) (by omega) rfl
          rw [nI_0] at g1 r1
          refine Or.inl ⟨sC (sC P 0 (am_u (P 0) 6 (nI z))) 21 g, sC (sC R 0 (am_u (R 0) 60 (nI z))) 30 gr, ?_, ?_, ⟨fun c q1 q2 => by rw [sC_ne q2, sC_ne q1], fun k q => am_u_ne q, fun c q1 q2 q3 => by rw [sC_ne q2, sC_ne q1], fun k q => am_u_ne q⟩, ⟨z, by omega, rfl, rfl, fun x hx => ?_⟩⟩
          · simp only [X0_findRing_L20, X0_findRing_B20]
            rw [if_neg n8, if_neg (pu_ne1 (by omega)), hE, decide_eq_false he, if_neg (by decide), p3]
            dsimp only [Option.bind]
            rw [if_neg (pu_ne1 (by omega))]
            unfold X0_keepRing
            rw [nI_asub, g1]
          · simp only [X8_tellRing_L54, X8_tellRing_B54, X8_tellRing_J134]
            rw [h2, if_neg (by rw [pu_le (by omega) (by omega)]; omega), eown]
            dsimp only [Option.bind]
            rw [if_neg he, if_neg (pu_g (n := 8) (by omega) (by omega)), nI_clamp (by omega), w3, if_neg hw0, if_neg (pu_gn (show h < 8 by omega) (by omega)), h32, if_neg (pu_ne1 (by omega)), if_neg (by rw [pu_le (by omega) (by omega)]; omega)]
            rw [if_neg he, if_neg (pu_gn (show h < 8 by omega) (by omega)), if_neg hw0, if_neg (pu_gn (show h < 8 by omega) (by omega)), nI_asub, r1]
          · show g x = gr x
            rw [g3 x (Nat.zero_le _) hx, r3 x (Nat.zero_le _) hx]
            show P 21 (p + x) = R 30 (p + x)
            obtain ⟨y1, y2, y3, y4, y5⟩ := h6 (p + x) (by omega)
            rw [y3, y4]
  · -- no such HAND
    have er : X8_tellRing_L54 n (Kr + 1) R (nI h) (nI s) = some R := by
      simp only [X8_tellRing_L54, X8_tellRing_B54, X8_tellRing_J134]
      rw [h2, if_pos (by rw [pu_le (by omega) (by omega)]; omega), if_pos (by rw [pu_le (by omega) (by omega)]; omega)]
    by_cases he : (am_sub P 1) 1 (13 * h + 0) = -1
    · refine Or.inl ⟨P, R, ?_, er, rFr_r, h0⟩
      simp only [X0_findRing_L20, X0_findRing_B20]
      rw [if_neg n8, if_neg (pu_ne1 (by omega)), hE, decide_eq_true he, if_pos rfl]
    · obtain ⟨P', p1, p2, p3⟩ := addend (fun i hi q => by have := (h6 i hi).1; omega) (wf_no n (S := am_sub P 1) h1 m8 (by omega) hh) he
      exact Or.inl ⟨P', R, p1, er, p2, p3⟩
theorem ring_loop (n : Nat) (hn : 2200 < n) {m : Nat} {w : Nat → Nat} (m8 : m ≤ 8) : ∀ (d s h Kc Kr : Nat) (P R : am_M) (hs : Nat → Nat), 8 ≤ s + d → d + 1 < Kc → d < Kr → ringI n P R m w s hs → h < 8 → ∃ P' R', X0_findRing_L20 n Kc P (nI s) (nI h) (nI s) = some P' ∧ X8_tellRing_L54 n Kr R (nI h) (nI s) = some R' ∧ rFr P P' R R' ∧ rgF P' R' := by
  intro d
  induction d with
  | zero =>
    intro s h Kc Kr P R hs hd hKc hKr hI hh
    obtain ⟨Kc, rfl⟩ : ∃ J, Kc = J + 1 := ⟨Kc - 1, by omega⟩
    obtain ⟨Kr, rfl⟩ : ∃ J, Kr = J + 1 := ⟨Kr - 1, by omega⟩
    rcases ring_step n hn (Kc := Kc) (Kr := Kr) m8 hI hh (by omega) with q | ⟨o, P1, R1, hs1, q1, q2, -⟩
    · exact q
    · omega
  | succ d ih =>
    intro s h Kc Kr P R hs hd hKc hKr hI hh
    obtain ⟨Kc, rfl⟩ : ∃ J, Kc = J + 1 := ⟨Kc - 1, by omega⟩
    obtain ⟨Kr, rfl⟩ : ∃ J, Kr = J + 1 := ⟨Kr - 1, by omega⟩
    rcases ring_step n hn (Kc := Kc) (Kr := Kr) m8 hI hh (by omega) with q | ⟨o, P1, R1, hs1, q1, q2, q3, q4, q5, q6⟩
    · exact q
    · obtain ⟨P2, R2, a1, a2, a3, a4⟩ := ih (s + 1) o Kc Kr P1 R1 hs1 (by omega) (by omega) (by omega) q5 q1
      exact ⟨P2, R2, q3.trans a1, q4.trans a2, rFr_t q6 a3, a4⟩
