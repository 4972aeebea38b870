/-! THE REFERENCE'S NEXT TOKEN, and what both see of it -/
section STEPON
variable {b : Nat → Int32} {A : Nat}
theorem j271 (n : Nat) {X : am_M} {x z : Int32} : X8_stepOn_J271 n X x z = some (sC X 0 (am_u (am_u (am_u (X 0) 13 z) 14 x) 17 (X 0 11))) := by
  unfold X8_stepOn_J271 X8_stepOn_J279
  rw [sC_sC]
theorem stepOn_loop (n : Nat) (hn : 2200 < n) (hA : A ≤ 700) (hby : byB b A) : ∀ (d p K : Nat) (R : am_M), p + d = A → d < K → rB8 b A R → R 0 11 = nI p → ∃ g, X8_stepOn_L0 n K R = some (sC R 0 g) ∧ (∀ k, k < 11 ∨ k = 12 ∨ 18 ≤ k → g k = R 0 k) ∧ rTk b A (skp b A p) g := by
  intro d
  induction d with
  | zero =>
    intro p K R hp hK hB h11
    obtain ⟨K, rfl⟩ : ∃ J, K = J + 1 := ⟨K - 1, by omega⟩
    have e : p = A := by omega
    rw [e] at h11
    have hq : X8_byteAt R (nI A) = some (-1) := by rw [byteAt_eq hA hB (Nat.le_refl _), if_neg (Nat.lt_irrefl _)]
    have hq2 : X8_byteAt (sC R 0 (am_u (am_u (R 0) 14 0) 16 (nI A))) (nI A) = some (-1) := hq
    rw [e, skp_A]
    refine ⟨am_u (am_u (am_u (am_u (R 0) 13 0) 14 0) 16 (nI A)) 17 (nI A), ?_, fun k hk => by rw [am_u_ne (by omega), am_u_ne (by omega), am_u_ne (by omega), am_u_ne (by omega)], rfl, fun _ => ⟨rfl, h11⟩, fun z => absurd z (Nat.lt_irrefl _)⟩
    simp only [X8_stepOn_L0, X8_stepOn_B0]
    rw [h11, hq]
    dsimp only [Option.bind]
    rw [if_neg (by decide), if_neg (by decide), hq2]
    dsimp only
    rw [if_pos rfl]
    unfold X8_stepOn_J279
    rw [sC_sC]
    show some (sC R 0 (am_u (am_u (am_u (am_u (R 0) 13 0) 14 0) 16 (nI A)) 17 (R 0 11))) = _
    rw [h11]
  | succ d ih =>
    intro p K R hp hK hB h11
    obtain ⟨K, rfl⟩ : ∃ J, K = J + 1 := ⟨K - 1, by omega⟩
    have hpA : p < A := by omega
    have hq : X8_byteAt R (nI p) = some (b p) := by rw [byteAt_eq hA hB (by omega), if_pos hpA]
    have hq2 : X8_byteAt (sC R 0 (am_u (am_u (R 0) 14 0) 16 (nI p))) (nI p) = some (b p) := hq
    obtain ⟨v, v1, v2⟩ := hby p hpA
    have ne1 : ¬ b p = -1 := by rw [v2]; exact pu_ne1 (by omega)
    have eb := enT_bd (b := b) hpA
    simp only [X8_stepOn_L0, X8_stepOn_B0, X8_stepOn_J26]
    rw [h11, hq]
    dsimp only [Option.bind]
    rw [skp_lt hpA]
    by_cases hbl : blk b p = true
    · rw [if_pos hbl]
      obtain ⟨g, g1, g2, g3⟩ := ih (p + 1) K (sC R 0 (am_u (R 0) 11 (nI (p + 1)))) (by omega) (by omega) ⟨hB.1, hB.2⟩ rfl
      refine ⟨g, ?_, fun k hk => (g2 k hk).trans (am_u_ne (by omega)), g3⟩
      rw [sC_sC] at g1
      unfold blk at hbl
      by_cases h32 : b p = 32
      · rw [if_pos h32, nI_1]
        exact g1
      · rw [if_neg h32] at hbl ⊢
        by_cases h10 : b p = 10
        · rw [if_pos h10, nI_1]
          exact g1
        · rw [if_neg h10] at hbl
          exact absurd hbl Bool.false_ne_true
    · rw [if_neg hbl]
      have n32 : ¬ b p = 32 := fun q => hbl (by unfold blk; rw [if_pos q])
      have n10 : ¬ b p = 10 := fun q => hbl (by unfold blk; rw [if_neg n32, if_pos q])
      rw [if_neg n32, if_neg n10, hq2]
      dsimp only
      rw [if_neg ne1]
      rcases cl_3 (b := b) p with c1 | c2 | c3
      · obtain ⟨g, g1, g2, g3, g4, g5⟩ := letters n hA (A - p) p n (sC R 0 (am_u (am_u (R 0) 14 0) 16 (nI p))) (by omega) (by omega) ⟨hB.1, hB.2⟩ h11
        have e : enT b A p = rn b A 1 p := by
          unfold enT
          rw [if_neg (by omega), c1, rn_lt hpA, if_pos c1]
        rw [if_pos (let_cl.mpr c1), g1, sC_sC]
        refine ⟨g, rfl, fun k hk => (g5 k (by omega) (by omega) (by omega)).trans (by
          show am_u (am_u (R 0) 14 0) 16 (nI p) k = _
          rw [am_u_ne (by omega), am_u_ne (by omega)]), g5 16 (by omega) (by omega) (by omega), fun z => by omega, fun _ => ⟨by rw [e]; exact g2, by rw [e]; exact g4, fun _ => g3, fun z => by omega, fun z => by omega⟩⟩
      · obtain ⟨g, g1, g2, g3, g4, g5, g6⟩ := digits n hA (s := p) (A - p) p n (sC R 0 (am_u (am_u (am_u (R 0) 14 0) 15 0) 16 (nI p))) (by omega) (Nat.le_refl _) (by omega) ⟨hB.1, hB.2⟩ h11 (fun j hj => by omega) (fun _ => by rw [Nat.sub_self]; rfl)
        have e : enT b A p = rn b A 2 p := by
          unfold enT
          rw [if_neg (by omega), c2, rn_lt hpA, if_pos c2]
        rw [if_neg (fun z => by have := let_cl.mp z; omega), if_pos (dig_cl.mpr c2), g1, sC_sC]
        refine ⟨g, rfl, fun k hk => (g6 k (by omega) (by omega) (by omega) (by omega)).trans (by
          show am_u (am_u (am_u (R 0) 14 0) 15 0) 16 (nI p) k = _
          rw [am_u_ne (by omega), am_u_ne (by omega), am_u_ne (by omega)]), g6 16 (by omega) (by omega) (by omega) (by omega), fun z => by omega, fun _ => ⟨by rw [e]; exact g2, by rw [e]; exact g4, fun z => by omega, fun _ => ⟨g3, by rw [e]; exact g5⟩, fun z => by omega⟩⟩
      · rw [if_neg (fun z => by have := let_cl.mp z; omega), if_neg (fun z => by have := dig_cl.mp z; omega), nI_1]
        have e : enT b A p = p + 1 := by
          unfold enT
          rw [if_pos c3]
        obtain ⟨X, hX⟩ : ∃ X, X = sC R 0 (am_u (am_u (am_u (R 0) 11 (nI (p + 1))) 14 0) 16 (nI p)) := ⟨_, rfl⟩
        rw [← hX]
        have fin : ∀ (z : Int32) (G : Option am_M), G = X8_stepOn_J271 n X (b p) z → ((z = 3 ∧ lst (b p)) ∨ (z = 4 ∧ ¬ lst (b p))) → ∃ g, G = some (sC R 0 g) ∧ (∀ k, k < 11 ∨ k = 12 ∨ 18 ≤ k → g k = R 0 k) ∧ rTk b A p g := by
          intro z G hG hz
          rw [hG, j271, hX, sC_sC]
          refine ⟨_, rfl, fun k hk => ?_, rfl, fun q => by omega, fun _ => ⟨by rw [e], by rw [e], fun q => by omega, fun q => by omega, fun _ => ⟨rfl, hz⟩⟩⟩
          rw [am_u_ne (by omega), am_u_ne (by omega), am_u_ne (by omega)]
          show am_u (am_u (am_u (R 0) 11 (nI (p + 1))) 14 0) 16 (nI p) k = _
          rw [am_u_ne (by omega), am_u_ne (by omega), am_u_ne (by omega)]
        have yes : X8_stepOn_J255 n X (b p) = X8_stepOn_J271 n X (b p) 3 := by
          unfold X8_stepOn_J255 X8_stepOn_J260
          rw [if_neg (show ¬ (1 : Int32) = 0 by decide)]
        have noo : X8_stepOn_J260 n X (b p) 0 = X8_stepOn_J271 n X (b p) 4 := by
          unfold X8_stepOn_J260
          rw [if_pos rfl]
        by_cases q1 : b p = 59
        · rw [if_pos q1]
          exact fin 3 _ yes (Or.inl ⟨rfl, Or.inl q1⟩)
        rw [if_neg q1]
        by_cases q2 : b p = 40
        · rw [if_pos q2]
          exact fin 3 _ yes (Or.inl ⟨rfl, Or.inr (Or.inl q2)⟩)
        rw [if_neg q2]
        by_cases q3 : b p = 41
        · rw [if_pos q3]
          exact fin 3 _ yes (Or.inl ⟨rfl, Or.inr (Or.inr (Or.inl q3))⟩)
        rw [if_neg q3]
        by_cases q4 : b p = 43
        · rw [if_pos q4]
          exact fin 3 _ yes (Or.inl ⟨rfl, Or.inr (Or.inr (Or.inr (Or.inl q4)))⟩)
        rw [if_neg q4]
        by_cases q5 : b p = 45
        · rw [if_pos q5]
          exact fin 3 _ yes (Or.inl ⟨rfl, Or.inr (Or.inr (Or.inr (Or.inr (Or.inl q5))))⟩)
        rw [if_neg q5]
        by_cases q6 : b p = 42
        · rw [if_pos q6]
          exact fin 3 _ yes (Or.inl ⟨rfl, Or.inr (Or.inr (Or.inr (Or.inr (Or.inr (Or.inl q6)))))⟩)
        rw [if_neg q6]
        by_cases q7 : b p = 47
        · rw [if_pos q7]
          exact fin 3 _ yes (Or.inl ⟨rfl, Or.inr (Or.inr (Or.inr (Or.inr (Or.inr (Or.inr (Or.inl q7))))))⟩)
        rw [if_neg q7]
        by_cases q8 : b p = 60
        · rw [if_pos q8]
          exact fin 3 _ yes (Or.inl ⟨rfl, Or.inr (Or.inr (Or.inr (Or.inr (Or.inr (Or.inr (Or.inr (Or.inl q8)))))))⟩)
        rw [if_neg q8]
        by_cases q9 : b p = 61
        · rw [if_pos q9]
          exact fin 3 _ yes (Or.inl ⟨rfl, Or.inr (Or.inr (Or.inr (Or.inr (Or.inr (Or.inr (Or.inr (Or.inr q9)))))))⟩)
        rw [if_neg q9]
        exact fin 4 _ noo (Or.inr ⟨rfl, fun z => by
          rcases z with z | z | z | z | z | z | z | z | z
          · exact q1 z
          · exact q2 z
          · exact q3 z
          · exact q4 z
          · exact q5 z
          · exact q6 z
          · exact q7 z
          · exact q8 z
          · exact q9 z⟩)
/-- the reference is at token k -/
def tkR (b : Nat → Int32) (A k : Nat) (R : am_M) : Prop := rB8 b A R ∧ rTk b A (tkB b A k) (R 0)
theorem stepOn_0 (n : Nat) (hn : 2200 < n) (hA : A ≤ 700) (hby : byB b A) {R : am_M} (hB : rB8 b A R) (h11 : R 0 11 = 0) : ∃ g, X8_stepOn n R = some (sC R 0 g) ∧ (∀ k, k < 11 ∨ k = 12 ∨ 18 ≤ k → g k = R 0 k) ∧ tkR b A 0 (sC R 0 g) := by
  obtain ⟨g, g1, g2, g3⟩ := stepOn_loop n hn hA hby A 0 n R (by omega) (by omega) hB h11
  exact ⟨g, g1, g2, ⟨(g2 12 (by omega)).trans hB.1, hB.2⟩, g3⟩
theorem stepOn_k (n : Nat) (hn : 2200 < n) (hA : A ≤ 700) (hby : byB b A) {k : Nat} {R : am_M} (h : tkR b A k R) (hk : tkB b A k < A) : ∃ g, X8_stepOn n R = some (sC R 0 g) ∧ (∀ k, k < 11 ∨ k = 12 ∨ 18 ≤ k → g k = R 0 k) ∧ tkR b A (k + 1) (sC R 0 g) := by
  have eb := enT_bd (b := b) hk
  obtain ⟨g, g1, g2, g3⟩ := stepOn_loop n hn hA hby (A - enT b A (tkB b A k)) (enT b A (tkB b A k)) n R (by omega) (by omega) h.1 (h.2.2.2 hk).1
  refine ⟨g, g1, g2, ⟨(g2 12 (by omega)).trans h.1.1, h.1.2⟩, ?_⟩
  simp only [tkB]
  rw [if_pos hk]
  exact g3
/-- a token's sort is a small number -/
theorem SK_n (hA : A ≤ 700) (hby : byB b A) {p : Nat} : (∃ j, j < 356 ∧ SK b A p = nI j) := by
  unfold SK
  by_cases q : p < A
  · rw [if_pos q]
    obtain ⟨v, v1, v2⟩ := hby p q
    have w := wix_le (b := b) (p := p) (e := enT b A p)
    split
    · exact ⟨_, by omega, rfl⟩
    · split
      · exact ⟨27, by omega, rfl⟩
      · rw [v2]
        exact ⟨100 + v, by omega, nI_add 100 v⟩
  · rw [if_neg q]
    exact ⟨28, by omega, rfl⟩
theorem is_eq (n : Nat) (hn : 2200 < n) (hA : A ≤ 700) (hby : byB b A) {k i : Nat} {R : am_M} (h : tkR b A k R) (h18 : R 0 18 = 0) (hi : i < 26) : X8_is n R (i + 1) = some (decide (SK b A (tkB b A k) = nI i)) := by
  obtain ⟨hB, t16, tA, tl⟩ := h
  unfold SK
  by_cases q : tkB b A k < A
  · obtain ⟨t11, t17, k1, k2, k3⟩ := tl q
    have eb := enT_bd (b := b) q
    obtain ⟨v, v1, v2⟩ := hby _ q
    rw [if_pos q]
    rcases cl_3 (b := b) (tkB b A k) with c | c | c
    · rw [is_word n hn hi hA h18 (k1 c) t16 t17 (by omega) eb.2 hB.2, if_pos c]
      have w := wix_le (b := b) (p := tkB b A k) (e := enT b A (tkB b A k))
      by_cases z : wix b (tkB b A k) (enT b A (tkB b A k)) = i
      · rw [decide_eq_true z, decide_eq_true (by rw [z])]
      · rw [decide_eq_false z, decide_eq_false (fun y => z ((nI_eq (by omega) (by omega)).mp y))]
    · rw [is_no n hn (Or.inr (by rw [(k2 c).1]; decide)), if_neg (by omega), if_pos c, decide_eq_false (fun y => by have := (nI_eq (a := 27) (by omega) (by omega)).mp y; omega)]
    · rw [is_no n hn (Or.inr (by rcases (k3 c).2 with z | z <;> rw [z.1] <;> decide)), if_neg (by omega), if_neg (by omega), v2, show (100 : Int32) + nI v = nI (100 + v) from nI_add 100 v, decide_eq_false (fun y => by have := (nI_eq (by omega) (by omega)).mp y; omega)]
  · have e : tkB b A k = A := by
      have := tkB_le (b := b) (A := A) k
      omega
    rw [is_no n hn (Or.inr (by rw [(tA e).1]; decide)), if_neg q, decide_eq_false (fun y => by have := (nI_eq (a := 28) (by omega) (by omega)).mp y; omega)]
theorem isSign_eq (hA : A ≤ 700) (hby : byB b A) {k c : Nat} {R : am_M} (h : tkR b A k R) (h18 : R 0 18 = 0) (hc : c < 256) (hl : lst (nI c)) : X8_isSign R (nI c) = decide (SK b A (tkB b A k) = nI (100 + c)) := by
  obtain ⟨hB, t16, tA, tl⟩ := h
  unfold SK X8_isSign
  rw [if_pos h18]
  by_cases q : tkB b A k < A
  · obtain ⟨t11, t17, k1, k2, k3⟩ := tl q
    obtain ⟨v, v1, v2⟩ := hby _ q
    have w := wix_le (b := b) (p := tkB b A k) (e := enT b A (tkB b A k))
    rw [if_pos q]
    rcases cl_3 (b := b) (tkB b A k) with c1 | c2 | c3
    · rw [k1 c1, if_neg (by decide), if_pos c1, decide_eq_false (fun y => by have := (nI_eq (by omega) (by omega)).mp y; omega)]
    · rw [(k2 c2).1, if_neg (by decide), if_neg (by omega), if_pos c2, decide_eq_false (fun y => by have := (nI_eq (a := 27) (by omega) (by omega)).mp y; omega)]
    · obtain ⟨x14, x13⟩ := k3 c3
      rw [if_neg (show ¬ cl b (tkB b A k) = 1 by omega), if_neg (show ¬ cl b (tkB b A k) = 2 by omega), x14, v2, show (100 : Int32) + nI v = nI (100 + v) from nI_add 100 v]
      by_cases z : v = c
      · rcases x13 with ⟨y, -⟩ | ⟨y, y2⟩
        · rw [y, if_pos rfl, if_pos (by rw [z]), decide_eq_true (by rw [z])]
        · rw [v2, z] at y2
          exact absurd hl y2
      · have nz : ¬ nI v = nI c := fun y => z ((nI_eq (by omega) (by omega)).mp y)
        rw [if_neg nz, decide_eq_false (fun y => by have := (nI_eq (by omega) (by omega)).mp y; omega)]
        split <;> rfl
  · have e : tkB b A k = A := by
      have := tkB_le (b := b) (A := A) k
      omega
    rw [(tA e).1, if_neg (by decide), if_neg q, decide_eq_false (fun y => by have := (nI_eq (a := 28) (by omega) (by omega)).mp y; omega)]
theorem which_eq (n : Nat) (hn : 2200 < n) (hA : A ≤ 700) (hby : byB b A) {k : Nat} {R : am_M} (h : tkR b A k R) (h18 : R 0 18 = 0) : (∃ i, i ≤ 10 ∧ SK b A (tkB b A k) = nI i ∧ X8_which n R = some (nI i)) ∨ ((∀ i, i ≤ 10 → SK b A (tkB b A k) ≠ nI i) ∧ X8_which n R = some (-1)) := by
  have M : ∀ (d i K : Nat), i + d = 11 → d < K → (∀ j, j < i → SK b A (tkB b A k) ≠ nI j) → (∃ j, j ≤ 10 ∧ SK b A (tkB b A k) = nI j ∧ X8_which_L2 n R K (nI i) = some (nI j)) ∨ ((∀ j, j ≤ 10 → SK b A (tkB b A k) ≠ nI j) ∧ X8_which_L2 n R K (nI i) = some (-1)) := by
    intro d
    induction d with
    | zero =>
      intro i K hi hK hj
      obtain ⟨K, rfl⟩ : ∃ J, K = J + 1 := ⟨K - 1, by omega⟩
      have e : i = 11 := by omega
      subst e
      refine Or.inr ⟨fun j hj' => hj j (by omega), ?_⟩
      simp only [X8_which_L2, X8_which_B2]
      rw [if_pos (show Int32.ofNat 11 ≤ nI 11 from Int32.le_refl _)]
    | succ d ih =>
      intro i K hi hK hj
      obtain ⟨K, rfl⟩ : ∃ J, K = J + 1 := ⟨K - 1, by omega⟩
      simp only [X8_which_L2, X8_which_B2]
      rw [if_neg (show ¬ Int32.ofNat 11 ≤ nI i from fun z => by have := (nI_leI (a := 11) (by omega) (by omega)).mp z; omega), if_neg (pu_g (n := 11) (by omega) (by omega)), nI_clamp (by omega), Nat.add_comm 1 i, is_eq n hn hA hby h h18 (show i < 26 by omega), nI_1]
      dsimp only [Option.bind]
      by_cases q : SK b A (tkB b A k) = nI i
      · rw [decide_eq_true q, if_pos rfl]
        exact Or.inl ⟨i, by omega, q, rfl⟩
      · rw [decide_eq_false q, if_neg Bool.false_ne_true]
        exact ih (i + 1) K (by omega) (by omega) (fun j hj' => by
          by_cases z : j = i
          · rw [z]; exact q
          · exact hj j (by omega))
  exact M 11 0 n (by omega) (by omega) (fun j hj => absurd hj (Nat.not_lt_zero _))
theorem whichV_eq (n : Nat) (hn : 2200 < n) (hA : A ≤ 700) (hby : byB b A) {k : Nat} {R : am_M} (h : tkR b A k R) (h18 : R 0 18 = 0) : (∃ v, v < 7 ∧ SK b A (tkB b A k) = nI (11 + v) ∧ X8_whichV n R = some (nI v)) ∨ ((∀ v, v < 7 → SK b A (tkB b A k) ≠ nI (11 + v)) ∧ X8_whichV n R = some (-1)) := by
  have M : ∀ (d i K : Nat), i + d = 7 → d < K → (∀ j, j < i → SK b A (tkB b A k) ≠ nI (11 + j)) → (∃ j, j < 7 ∧ SK b A (tkB b A k) = nI (11 + j) ∧ X8_whichV_L2 n R K (nI i) = some (nI j)) ∨ ((∀ j, j < 7 → SK b A (tkB b A k) ≠ nI (11 + j)) ∧ X8_whichV_L2 n R K (nI i) = some (-1)) := by
    intro d
    induction d with
    | zero =>
      intro i K hi hK hj
      obtain ⟨K, rfl⟩ : ∃ J, K = J + 1 := ⟨K - 1, by omega⟩
      have e : i = 7 := by omega
      subst e
      refine Or.inr ⟨fun j hj' => hj j (by omega), ?_⟩
      simp only [X8_whichV_L2, X8_whichV_B2]
      rw [if_pos (show Int32.ofNat 7 ≤ nI 7 from Int32.le_refl _)]
    | succ d ih =>
      intro i K hi hK hj
      obtain ⟨K, rfl⟩ : ∃ J, K = J + 1 := ⟨K - 1, by omega⟩
      simp only [X8_whichV_L2, X8_whichV_B2]
      rw [if_neg (show ¬ Int32.ofNat 7 ≤ nI i from fun z => by have := (nI_leI (a := 7) (by omega) (by omega)).mp z; omega), if_neg (pu_g (n := 7) (by omega) (by omega)), nI_clamp (by omega), show 12 + i = (11 + i) + 1 by omega, is_eq n hn hA hby h h18 (show 11 + i < 26 by omega), nI_1]
      dsimp only [Option.bind]
      by_cases q : SK b A (tkB b A k) = nI (11 + i)
      · rw [decide_eq_true q, if_pos rfl]
        exact Or.inl ⟨i, by omega, q, rfl⟩
      · rw [decide_eq_false q, if_neg Bool.false_ne_true]
        exact ih (i + 1) K (by omega) (by omega) (fun j hj' => by
          by_cases z : j = i
          · rw [z]; exact q
          · exact hj j (by omega))
  exact M 7 0 n (by omega) (by omega) (fun j hj => absurd hj (Nat.not_lt_zero _))
end STEPON
