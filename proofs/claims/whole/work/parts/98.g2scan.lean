/-! A TEXT IS SCANNED: the class beforehand, the reference token by token -/
def SK (b : Nat → Int32) (A p : Nat) : Int32 := if p < A then (if cl b p = 1 then nI (wix b p (enT b A p)) else if cl b p = 2 then 27 else 100 + b p) else 28
def NMT (b : Nat → Int32) (A p : Nat) : Int32 := if p < A then NM b A p else 0
section SCAN
variable {b : Nat → Int32} {A : Nat}
theorem sortOf_eq (n : Nat) (hn : 2200 < n) {S : am_M} (hS : S 1 = b) (hA : A ≤ 700) {p : Nat} (hp : p < A) : X5_sortOf n S (nI p) (nI (enT b A p)) = some (SK b A p) := by
  have e := enT_bd (b := b) hp
  have c3 := cl_3 (b := b) p
  unfold X5_sortOf SK
  rw [classOf_eq hS hA hp, if_pos hp]
  by_cases q1 : cl b p = 1
  · rw [if_pos (show nI (cl b p) = (1 : Int32) by rw [q1]; rfl), if_pos q1, wordOf_eq n hn hS (by omega) (by omega)]
    rfl
  · rw [if_neg (show ¬ nI (cl b p) = (1 : Int32) from fun z => q1 ((nI_eq (b := 1) (by omega) (by omega)).mp z)), if_neg q1]
    by_cases q2 : cl b p = 2
    · rw [if_pos (show nI (cl b p) = (2 : Int32) by rw [q2]; rfl), if_pos q2]
    · rw [if_neg (show ¬ nI (cl b p) = (2 : Int32) from fun z => q2 ((nI_eq (b := 2) (by omega) (by omega)).mp z)), if_neg q2, jat_nI (by omega) (by omega), hS]
theorem addToken_eq {S : am_M} {t : Nat} (ht : t < 701) (h5 : S 0 5 = nI t) (x y z : Int32) : X5_addToken S x y z = some (sC (sC (sC (sC S 0 (am_u (S 0) 5 (nI (t + 1)))) 2 (upd (S 2) t x)) 3 (upd (S 3) t y)) 4 (upd (S 4) t z)) := by
  unfold X5_addToken
  rw [h5, jput_nI ht (by omega), jput_nI ht (by omega), jput_nI ht (by omega), nI_1]
def tokS (b : Nat → Int32) (A : Nat) (S : am_M) (k : Nat) : Prop := S 2 k = SK b A (tkB b A k) ∧ S 3 k = nI (tkB b A k) ∧ S 4 k = NMT b A (tkB b A k)
theorem scan_loop (n : Nat) (hn : 2200 < n) (hA : A ≤ 700) : ∀ (d p K t c : Nat) (S : am_M), p + d = A → d < K → t ≤ p → c ≤ p → S 1 = b → S 0 5 = nI t → skp b A p = tkB b A t → (∀ k, k < t → tkB b A k < A ∧ tokS b A S k) → ∃ S' K0, X5_scan_L14 n K S (nI A) (nI p) (nI c) = some S' ∧ K0 ≤ A ∧ tkB b A K0 = A ∧ (∀ k, k < K0 → tkB b A k < A) ∧ S' 0 5 = nI (K0 + 1) ∧ (∀ c, c = 1 ∨ 5 ≤ c → S' c = S c) ∧ (∀ k, k ≠ 5 → S' 0 k = S 0 k) ∧ ∀ k, k ≤ K0 → tokS b A S' k := by
  intro d
  induction d using Nat.strongRecOn with
  | _ d ih =>
    intro p K t c S hp hK htp hcp hS h5 hsk hpre
    obtain ⟨K, rfl⟩ : ∃ J, K = J + 1 := ⟨K - 1, by omega⟩
    have add : ∀ (x y z : Int32), x = SK b A (tkB b A t) → y = nI (tkB b A t) → z = NMT b A (tkB b A t) → ∃ S1, X5_addToken S x y z = some S1 ∧ S1 0 5 = nI (t + 1) ∧ (∀ c, c = 1 ∨ 5 ≤ c → S1 c = S c) ∧ (∀ k, k ≠ 5 → S1 0 k = S 0 k) ∧ ∀ k, k ≤ t → tokS b A S1 k := fun x y z hx hy hz => by
      refine ⟨_, addToken_eq (by omega) h5 x y z, rfl, fun c hc => by rw [sC_ne (by omega), sC_ne (by omega), sC_ne (by omega), sC_ne (by omega)], fun k hk => am_u_ne hk, fun k hk => ?_⟩
      unfold tokS
      show upd (S 2) t x k = _ ∧ upd (S 3) t y k = _ ∧ upd (S 4) t z k = _
      by_cases q : k = t
      · rw [q, upd_eq, upd_eq, upd_eq]
        exact ⟨hx, hy, hz⟩
      · rw [upd_ne q, upd_ne q, upd_ne q]
        exact (hpre k (by omega)).2
    simp only [X5_scan_L14, X5_scan_B14]
    by_cases hpA : p = A
    · rw [hpA] at hsk ⊢
      rw [skp_A] at hsk
      obtain ⟨S1, s1, s2, s3, s4, s5⟩ := add 28 (nI A) 0 (by rw [← hsk]; unfold SK; rw [if_neg (Nat.lt_irrefl _)]) (by rw [← hsk]) (by rw [← hsk]; unfold NMT; rw [if_neg (Nat.lt_irrefl _)])
      have e70 : X5_scan_J70 n S (nI A) = some S1 := by
        unfold X5_scan_J70
        rw [s1]
        rfl
      refine ⟨S1, t, ?_, by omega, hsk.symm, fun k hk => (hpre k hk).1, s2, s3, s4, s5⟩
      by_cases q : (700 : Int32) ≤ nI c
      · rw [if_pos q, e70]
      · rw [if_neg q, if_pos (Int32.le_refl _), e70]
    · have hpl : p < A := by omega
      have hb := enT_bd (b := b) hpl
      rw [if_neg (show ¬ (700 : Int32) ≤ nI c from fun z => absurd ((nI_leI (a := 700) (by omega) (by omega)).mp z) (by omega)), if_neg (by rw [pu_le (by omega) (by omega)]; omega), endOf_eq n hn hS hA hpl]
      dsimp only [Option.bind]
      rw [isBlank_eq hS hA hpl]
      rw [skp_lt hpl] at hsk
      by_cases hbl : blk b p = true
      · rw [if_pos hbl] at hsk ⊢
        have e1 : enT b A p = p + 1 := by
          unfold enT
          rw [if_pos (blk_cl hbl)]
        rw [e1]
        unfold X5_scan_J61
        rw [nI_1]
        exact ih (A - (p + 1)) (by omega) (p + 1) K t (c + 1) S (by omega) (by omega) (by omega) (by omega) hS h5 hsk hpre
      · rw [if_neg hbl] at hsk ⊢
        rw [sortOf_eq n hn hS hA hpl]
        dsimp only
        rw [numOf_eq n hn hS hA hpl]
        dsimp only
        obtain ⟨S1, s1, s2, s3, s4, s5⟩ := add (SK b A p) (nI p) (NM b A p) (by rw [← hsk]) (by rw [← hsk]) (by rw [← hsk]; unfold NMT; rw [if_pos hpl])
        rw [s1]
        dsimp only
        unfold X5_scan_J61
        rw [nI_1]
        obtain ⟨S', K0, i1, i2, i3, i4, i5, i6, i7, i8⟩ := ih (A - enT b A p) (by omega) (enT b A p) K (t + 1) (c + 1) S1 (by omega) (by omega) (by omega) (by omega) ((s3 1 (Or.inl rfl)).trans hS) s2 (by
          simp only [tkB]
          rw [← hsk, if_pos hpl]) (fun k hk => ⟨by
            by_cases z : k = t
            · rw [z, ← hsk]; exact hpl
            · exact (hpre k (by omega)).1, s5 k (by omega)⟩)
        exact ⟨S', K0, i1, i2, i3, i4, i5, fun c hc => (i6 c hc).trans (s3 c hc), fun k hk => (i7 k hk).trans (s4 k hk), i8⟩
theorem scan_eq (n : Nat) (hn : 2200 < n) {S : am_M} (hS : S 1 = b) (hA : A ≤ 700) : ∃ S' K0, X5_scan n S (nI A) = some S' ∧ K0 ≤ A ∧ tkB b A K0 = A ∧ (∀ k, k < K0 → tkB b A k < A) ∧ S' 0 5 = nI (K0 + 1) ∧ S' 0 6 = 0 ∧ (∀ c, c = 1 ∨ 5 ≤ c → S' c = S c) ∧ ∀ k, k ≤ K0 → tokS b A S' k := by
  obtain ⟨S', K0, i1, i2, i3, i4, i5, i6, i7, i8⟩ := scan_loop n hn hA A 0 n 0 0 (sC S 0 (am_u (am_u (S 0) 5 0) 6 0)) (by omega) (by omega) (by omega) (by omega) hS rfl rfl (fun k hk => absurd hk (Nat.not_lt_zero _))
  refine ⟨S', K0, ?_, i2, i3, i4, i5, (i7 6 (by omega)).trans rfl, fun c hc => (i6 c hc).trans (sC_ne (by omega)), i8⟩
  unfold X5_scan
  rw [nI_0] at i1
  exact i1
/-- the signs -/
def lst (x : Int32) : Prop := x = 59 ∨ x = 40 ∨ x = 41 ∨ x = 43 ∨ x = 45 ∨ x = 42 ∨ x = 47 ∨ x = 60 ∨ x = 61
/-- the reference's token, begun at s -/
def rTk (b : Nat → Int32) (A s : Nat) (f : Nat → Int32) : Prop := f 16 = nI s ∧ (s = A → f 13 = 0 ∧ f 11 = nI A) ∧ (s < A → f 11 = nI (enT b A s) ∧ f 17 = nI (enT b A s) ∧ (cl b s = 1 → f 13 = 1) ∧ (cl b s = 2 → f 13 = 2 ∧ (enT b A s - s ≤ 4 → f 15 = nv b s (enT b A s - s))) ∧ (cl b s = 3 → f 14 = b s ∧ ((f 13 = 3 ∧ lst (b s)) ∨ (f 13 = 4 ∧ ¬ lst (b s)))))
def byB (b : Nat → Int32) (A : Nat) : Prop := ∀ p, p < A → ∃ v, v < 256 ∧ b p = nI v
def rB8 (b : Nat → Int32) (A : Nat) (R : am_M) : Prop := R 0 12 = nI A ∧ ∀ x, x < A → R 3 x = b x
theorem byteAt_eq {R : am_M} (hA : A ≤ 700) (h : rB8 b A R) {p : Nat} (hp : p ≤ A) : X8_byteAt R (nI p) = some (if p < A then b p else -1) := by
  unfold X8_byteAt
  rw [h.1]
  by_cases q : p < A
  · rw [if_neg (by rw [pu_le (by omega) (by omega)]; omega), if_neg (pu_g (n := 700) (by omega) (by omega)), nI_clamp (by omega), h.2 p q, if_pos q]
  · rw [if_pos (by rw [pu_le (by omega) (by omega)]; omega), if_neg q]
theorem let_cl {p : Nat} : X8_isLetter (b p) = true ↔ cl b p = 1 := by
  unfold cl
  constructor
  · intro h; rw [if_pos h]
  · intro h
    by_cases q : X8_isLetter (b p) = true
    · exact q
    · rw [if_neg q] at h
      split at h <;> exact absurd h (by omega)
theorem let_dig {x : Int32} (h : X8_isDigit x = true) : ¬ X8_isLetter x = true := by
  unfold X8_isDigit at h
  unfold X8_isLetter
  by_cases h1 : x < 97
  · rw [if_pos h1]
    exact Bool.false_ne_true
  · exfalso
    have g1 : ¬ x < 48 := fun q => h1 (Int32.lt_trans q (by decide))
    rw [if_neg g1] at h
    by_cases g2 : 57 < x
    · rw [if_pos g2] at h
      exact Bool.false_ne_true h
    · exact g2 (Int32.lt_of_lt_of_le (by decide) (Int32.not_lt.mp h1))
theorem dig_cl {p : Nat} : X8_isDigit (b p) = true ↔ cl b p = 2 := by
  unfold cl
  constructor
  · intro h; rw [if_neg (let_dig h), if_pos h]
  · intro h
    by_cases q : X8_isLetter (b p) = true
    · rw [if_pos q] at h
      exact absurd h (by omega)
    · rw [if_neg q] at h
      by_cases z : X8_isDigit (b p) = true
      · exact z
      · rw [if_neg z] at h
        exact absurd h (by omega)
theorem dig_val {x : Int32} (h : X8_isDigit x = true) : ∃ v, v ≤ 9 ∧ x = nI (48 + v) := by
  unfold X8_isDigit at h
  by_cases h1 : x < 48
  · rw [if_pos h1] at h
    exact absurd h Bool.false_ne_true
  · rw [if_neg h1] at h
    by_cases h2 : 57 < x
    · rw [if_pos h2] at h
      exact absurd h Bool.false_ne_true
    · obtain ⟨w, hw, rfl⟩ := nI_of (x := x) (fun z => h1 (Int32.lt_trans z (by decide)))
      have a := (nI_leI (a := 48) (by omega) hw).mp (Int32.not_lt.mp h1)
      have c := (nI_leI (b := 57) hw (by omega)).mp (Int32.not_lt.mp h2)
      exact ⟨w - 48, by omega, by rw [show 48 + (w - 48) = w by omega]⟩
theorem nv_val {s : Nat} : ∀ i, (∀ j, j < i → cl b (s + j) = 2) → i ≤ 5 → ∃ w, w < 10 ^ i ∧ nv b s i = nI w := by
  intro i
  induction i with
  | zero => intro _ _; exact ⟨0, by decide, rfl⟩
  | succ i ih =>
    intro h hi
    obtain ⟨w, w1, w2⟩ := ih (fun j hj => h j (by omega)) (by omega)
    obtain ⟨v, v1, v2⟩ := dig_val (dig_cl.mpr (h i (by omega)))
    have hp : 10 ^ (i + 1) = 10 ^ i * 10 := Nat.pow_succ 10 i
    refine ⟨w * 10 + v, by omega, ?_⟩
    simp only [nv]
    rw [w2, v2, show nI w * 10 = nI (w * 10) from pk_mul w 10, nI_add, show w * 10 + (48 + v) = 48 + (w * 10 + v) by omega]
    exact nI_asub 48 _
theorem letters (n : Nat) (hA : A ≤ 700) : ∀ (d p K : Nat) (R : am_M), p + d = A → d < K → rB8 b A R → R 0 11 = nI p → ∃ g, X8_stepOn_L81 n K R = some (sC R 0 g) ∧ g 11 = nI (rn b A 1 p) ∧ g 13 = 1 ∧ g 17 = nI (rn b A 1 p) ∧ ∀ k, k ≠ 11 → k ≠ 13 → k ≠ 17 → g k = R 0 k := by
  intro d
  induction d with
  | zero =>
    intro p K R hp hK hB h11
    obtain ⟨K, rfl⟩ : ∃ J, K = J + 1 := ⟨K - 1, by omega⟩
    have e : p = A := by omega
    refine ⟨am_u (am_u (R 0) 13 1) 17 (nI A), ?_, ?_, rfl, ?_, fun k k1 k2 k3 => by rw [am_u_ne k3, am_u_ne k2]⟩
    · simp only [X8_stepOn_L81, X8_stepOn_B81]
      rw [h11, byteAt_eq hA hB (by omega), if_neg (by omega)]
      dsimp only [Option.bind]
      rw [if_neg (by decide)]
      unfold X8_stepOn_J279
      rw [sC_sC]
      show some (sC R 0 (am_u (am_u (R 0) 13 1) 17 (am_u (R 0) 13 1 11))) = _
      rw [am_u_ne (show (11 : Nat) ≠ 13 by omega), h11, e]
    · rw [am_u_ne (by omega), am_u_ne (by omega), h11, e, rn_A]
    · rw [e, rn_A]
  | succ d ih =>
    intro p K R hp hK hB h11
    obtain ⟨K, rfl⟩ : ∃ J, K = J + 1 := ⟨K - 1, by omega⟩
    rw [rn_lt (by omega)]
    by_cases q : cl b p = 1
    · rw [if_pos q]
      obtain ⟨g, g1, g2, g3, g4, g5⟩ := ih (p + 1) K (sC R 0 (am_u (R 0) 11 (nI (p + 1)))) (by omega) (by omega) ⟨hB.1, hB.2⟩ rfl
      refine ⟨g, ?_, g2, g3, g4, fun k k1 k2 k3 => (g5 k k1 k2 k3).trans (am_u_ne k1)⟩
      simp only [X8_stepOn_L81, X8_stepOn_B81]
      rw [h11, byteAt_eq hA hB (by omega), if_pos (by omega)]
      dsimp only [Option.bind]
      rw [if_pos (let_cl.mpr q), nI_1, g1, sC_sC]
    · rw [if_neg q]
      refine ⟨am_u (am_u (R 0) 13 1) 17 (nI p), ?_, ?_, rfl, rfl, fun k k1 k2 k3 => by rw [am_u_ne k3, am_u_ne k2]⟩
      · simp only [X8_stepOn_L81, X8_stepOn_B81]
        rw [h11, byteAt_eq hA hB (by omega), if_pos (by omega)]
        dsimp only [Option.bind]
        rw [if_neg (fun z => q (let_cl.mp z))]
        unfold X8_stepOn_J279
        rw [sC_sC]
        show some (sC R 0 (am_u (am_u (R 0) 13 1) 17 (am_u (R 0) 13 1 11))) = _
        rw [am_u_ne (show (11 : Nat) ≠ 13 by omega), h11]
      · rw [am_u_ne (by omega), am_u_ne (by omega), h11]
theorem digits (n : Nat) (hA : A ≤ 700) {s : Nat} : ∀ (d p K : Nat) (R : am_M), p + d = A → s ≤ p → d < K → rB8 b A R → R 0 11 = nI p → (∀ j, s + j < p → cl b (s + j) = 2) → (p - s ≤ 4 → R 0 15 = nv b s (p - s)) → ∃ g, X8_stepOn_L128 n K R = some (sC R 0 g) ∧ g 11 = nI (rn b A 2 p) ∧ g 13 = 2 ∧ g 17 = nI (rn b A 2 p) ∧ (rn b A 2 p - s ≤ 4 → g 15 = nv b s (rn b A 2 p - s)) ∧ ∀ k, k ≠ 11 → k ≠ 13 → k ≠ 15 → k ≠ 17 → g k = R 0 k := by
  intro d
  induction d with
  | zero =>
    intro p K R hp hs hK hB h11 hd h15
    obtain ⟨K, rfl⟩ : ∃ J, K = J + 1 := ⟨K - 1, by omega⟩
    have e : p = A := by omega
    refine ⟨am_u (am_u (R 0) 13 2) 17 (nI A), ?_, ?_, rfl, ?_, ?_, fun k k1 k2 k3 k4 => by rw [am_u_ne k4, am_u_ne k2]⟩
    · simp only [X8_stepOn_L128, X8_stepOn_B128]
      rw [h11, byteAt_eq hA hB (by omega), if_neg (by omega)]
      dsimp only [Option.bind]
      rw [if_neg (by decide)]
      unfold X8_stepOn_J279
      rw [sC_sC]
      show some (sC R 0 (am_u (am_u (R 0) 13 2) 17 (am_u (R 0) 13 2 11))) = _
      rw [am_u_ne (show (11 : Nat) ≠ 13 by omega), h11, e]
    · rw [am_u_ne (by omega), am_u_ne (by omega), h11, e, rn_A]
    · rw [e, rn_A]
    · rw [e, rn_A]
      intro z
      rw [am_u_ne (by omega), am_u_ne (by omega)]
      rw [e] at h15
      exact h15 z
  | succ d ih =>
    intro p K R hp hs hK hB h11 hd h15
    obtain ⟨K, rfl⟩ : ∃ J, K = J + 1 := ⟨K - 1, by omega⟩
    rw [rn_lt (by omega)]
    by_cases q : cl b p = 2
    · rw [if_pos q]
      obtain ⟨v, v1, v2⟩ := dig_val (dig_cl.mpr q)
      obtain ⟨g, g1, g2, g3, g4, g5, g6⟩ := ih (p + 1) K (sC R 0 (am_u (am_u (R 0) 11 (nI (p + 1))) 15 (J9_min_7cf53 100000 (10 * R 0 15 + b p - 48)))) (by omega) (by omega) (by omega) ⟨hB.1, hB.2⟩ rfl (fun j hj => by
        by_cases z : s + j = p
        · rw [z]; exact q
        · exact hd j (by omega)) (fun z => by
        show J9_min_7cf53 100000 (10 * R 0 15 + b p - 48) = _
        obtain ⟨i, hi⟩ : ∃ i, p = s + i := ⟨p - s, by omega⟩
        subst hi
        rw [show s + i - s = i by omega] at h15
        rw [show s + i + 1 - s = i + 1 by omega] at z ⊢
        obtain ⟨w, w1, w2⟩ := nv_val (b := b) (s := s) i (fun j hj => hd j (by omega)) (by omega)
        have p10 : 10 ^ i ≤ 10 ^ 3 := Nat.pow_le_pow_right (by omega) (by omega)
        rw [h15 (by omega)]
        simp only [nv]
        rw [w2, v2, show (10 : Int32) * nI w = nI (10 * w) from pk_mul 10 w, show nI w * 10 = nI (w * 10) from pk_mul w 10, nI_add, nI_add, show w * 10 + (48 + v) = 48 + (w * 10 + v) by omega, show 10 * w + (48 + v) = 48 + (w * 10 + v) by omega, show nI (48 + (w * 10 + v)) - 48 = nI (w * 10 + v) from nI_asub 48 _]
        unfold J9_min_7cf53
        rw [if_pos (show nI (w * 10 + v) < (100000 : Int32) from (nI_ltN (b := 100000) (by omega) (by omega)).mpr (by omega))])
      refine ⟨g, ?_, g2, g3, g4, g5, fun k k1 k2 k3 k4 => (g6 k k1 k2 k3 k4).trans (by
        show am_u (am_u (R 0) 11 (nI (p + 1))) 15 _ k = _
        rw [am_u_ne k3, am_u_ne k1])⟩
      simp only [X8_stepOn_L128, X8_stepOn_B128]
      rw [h11, byteAt_eq hA hB (by omega), if_pos (by omega)]
      dsimp only [Option.bind]
      rw [if_pos (dig_cl.mpr q), nI_1, g1, sC_sC]
    · rw [if_neg q]
      refine ⟨am_u (am_u (R 0) 13 2) 17 (nI p), ?_, ?_, rfl, rfl, fun z => ?_, fun k k1 k2 k3 k4 => by rw [am_u_ne k4, am_u_ne k2]⟩
      · simp only [X8_stepOn_L128, X8_stepOn_B128]
        rw [h11, byteAt_eq hA hB (by omega), if_pos (by omega)]
        dsimp only [Option.bind]
        rw [if_neg (fun z => q (dig_cl.mp z))]
        unfold X8_stepOn_J279
        rw [sC_sC]
        show some (sC R 0 (am_u (am_u (R 0) 13 2) 17 (am_u (R 0) 13 2 11))) = _
        rw [am_u_ne (show (11 : Nat) ≠ 13 by omega), h11]
      · rw [am_u_ne (by omega), am_u_ne (by omega), h11]
      · rw [am_u_ne (by omega), am_u_ne (by omega)]
        exact h15 z
end SCAN
