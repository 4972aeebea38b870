/-! AN EXPR IS READ: the whole of it -/
section WHOLE
variable {n : Nat} {b : Nat → Int32} {A K0 z0 q0 k : Nat} {S R : am_M}
/-- whether a PART can begin here, to both -/
theorem tok_can (hK : KB b A K0) (r1 : tkR b A k R) (r2 : R 0 18 = 0) : ((R 0 13 = 2 ∨ R 0 13 = 1 ∨ X8_isSign R 40 = true) ∧ (SK b A (tkB b A k) = 27 ∨ SK b A (tkB b A k) = 140 ∨ ∃ j, j ≤ 26 ∧ SK b A (tkB b A k) = nI j)) ∨ (¬ R 0 13 = 2 ∧ ¬ R 0 13 = 1 ∧ X8_isSign R 40 = false ∧ ∃ j, j < 356 ∧ 27 < j ∧ j ≠ 140 ∧ SK b A (tkB b A k) = nI j) := by
  have sg : X8_isSign R 40 = _ := isSign_eq hK.1 hK.2.1 (c := 40) r1 r2 (by omega) (Or.inr (Or.inl rfl))
  obtain ⟨tB, t16, tA, tl⟩ := r1
  by_cases q : tkB b A k < A
  · obtain ⟨t11, t17, k1, k2, k3⟩ := tl q
    rcases cl_3 (b := b) (tkB b A k) with c | c | c
    · have wl := wix_le (b := b) (p := tkB b A k) (e := enT b A (tkB b A k))
      refine Or.inl ⟨Or.inr (Or.inl (k1 c)), Or.inr (Or.inr ⟨wix b (tkB b A k) (enT b A (tkB b A k)), wl, ?_⟩)⟩
      unfold SK
      rw [if_pos q, if_pos c]
    · refine Or.inl ⟨Or.inl (k2 c).1, Or.inl ?_⟩
      unfold SK
      rw [if_pos q, if_neg (by omega), if_pos c]
    · obtain ⟨x14, x13⟩ := k3 c
      obtain ⟨v, v1, v2⟩ := hK.2.1 _ q
      have sk : SK b A (tkB b A k) = nI (100 + v) := by
        unfold SK
        rw [if_pos q, if_neg (by omega), if_neg (by omega), v2]
        exact nI_add 100 v
      have n13 : ¬ R 0 13 = 2 ∧ ¬ R 0 13 = 1 := by
        rcases x13 with ⟨y, -⟩ | ⟨y, -⟩ <;> rw [y] <;> exact ⟨by decide, by decide⟩
      by_cases y : SK b A (tkB b A k) = nI (100 + 40)
      · exact Or.inl ⟨Or.inr (Or.inr (by rw [sg]; exact decide_eq_true y)), Or.inr (Or.inl y)⟩
      · exact Or.inr ⟨n13.1, n13.2, by rw [sg]; exact decide_eq_false y, 100 + v, by omega, by omega, fun z => y (by rw [sk, z]), sk⟩
  · have e : tkB b A k = A := by
      have := tkB_le (b := b) (A := A) k
      omega
    have sk : SK b A (tkB b A k) = nI 28 := by
      unfold SK
      rw [if_neg q]
      rfl
    have t13 := (tA e).1
    exact Or.inr ⟨by rw [t13]; decide, by rw [t13]; decide, by rw [sg, sk]; decide, 28, by omega, by omega, by omega, sk⟩
theorem expr_J62 (hn : 2200 < n) (hK : KB b A K0) {d : Nat} (hd : d < 7) (hE : SpecE n b A K0 (d + 1)) {C J : List Int32} {w i h g : Nat} {Q : List Int32} (hpre : preO b A K0 z0 q0 S k C J d w Q i 0 h R) (hb : w.testBit d = false) (hg : 9 ≤ g + (d + 1)) : ∃ R', X8_readExpression_J62 n (X8_readExpressionR n g) R (nI d) = some R' ∧ (okO n b A K0 z0 q0 S k C J d w Q i 0 h R R' ∨ noO n K0 q0 S k i 1 R R') := by
  obtain ⟨R1, e1, e2⟩ := spec_sum hn hK hd hE (preO_up (by omega) hpre) hg
  unfold X8_readExpression_J62
  rw [e1]
  dsimp only [Option.bind]
  rcases e2 with ok | no
  · obtain ⟨t, w1, x⟩ := okO_T ok
    obtain ⟨kk, x1, x2, x3⟩ := okT_rI x
    have hw1 : w1.testBit d = false := by
      obtain ⟨S', C1, P, y1, y2, y3, y4, y5, y6, y7, y8, y9, y10, y11, y12, y13⟩ := x
      rw [y13 d (by omega) (Or.inr ⟨rfl, by omega⟩)]
      exact hb
    have sg1 : X8_isSign R1 60 = _ := isSign_eq hK.1 hK.2.1 (c := 60) x1 x2 (by omega) (by unfold lst; decide)
    have sg2 : X8_isSign R1 61 = _ := isSign_eq hK.1 hK.2.1 (c := 61) x1 x2 (by omega) (by unfold lst; decide)
    have hsub : ∀ (S2 : am_M) (k2 : Nat) (C2 J2 : List Int32) (w2 : Nat) (Q2 : List Int32) (i2 h2 : Nat) (R2 : am_M), preO b A K0 z0 q0 S2 k2 C2 J2 d w2 Q2 i2 (0 + 1) h2 R2 → ∃ R3, X8_readSum n (X8_readExpressionR n g) R2 (nI d) = some R3 ∧ (okO n b A K0 z0 q0 S2 k2 C2 J2 d w2 Q2 i2 (0 + 1) h2 R2 R3 ∨ noO n K0 q0 S2 k2 i2 1 R2 R3) := fun S2 k2 C2 J2 w2 Q2 i2 h2 R2 p => spec_sum hn hK hd hE p hg
    have fin : ∀ R4, ((∃ t' w', t < t' ∧ okT n b A K0 z0 q0 S k C J d w Q i 0 (0 + 1) h R R4 t' w' ∧ (0 = 0 → w'.testBit d = true)) ∨ noO n K0 q0 S k i 1 R R4) → okO n b A K0 z0 q0 S k C J d w Q i 0 h R R4 ∨ noO n K0 q0 S k i 1 R R4 := fun R4 q => by
      rcases q with ⟨t', w', l, o, ob⟩ | z
      · have y := (okT_rI o).2.2.2
        exact Or.inl (okT_O (okT_stp o ⟨fun _ => y.1 (by omega), fun _ => y.2.1 (by omega), fun _ z => absurd ((ob rfl).symm.trans z) (by decide)⟩))
      · exact Or.inr z
    simp only [X8_readExpression_J85, X8_readExpression_J100]
    rw [sg1, sg2]
    by_cases q1 : SK b A (tkB b A (k + t)) = nI (100 + 60)
    · rw [decide_eq_true q1, if_pos rfl, if_pos rfl]
      obtain ⟨R2, R3, R4, j1, j2, j3, j4⟩ := join_any hn hK (s := 100 + 60) (o := 5) (r := 0) (by omega) (by omega) hpre (okT_dn (by omega) x) q1 (by omega) (by omega) (by omega) (by omega) (by decide) (fun bit z => by rw [z rfl]; decide) (fun _ => hw1) hsub
      rw [j1]
      dsimp only [Option.bind]
      rw [j2]
      dsimp only
      rw [show (5 : Int32) = nI 5 from rfl, j3]
      exact ⟨R4, rfl, fin R4 j4⟩
    · rw [decide_eq_false q1, if_neg Bool.false_ne_true, if_neg Bool.false_ne_true]
      by_cases q2 : SK b A (tkB b A (k + t)) = nI (100 + 61)
      · rw [decide_eq_true q2, if_pos rfl]
        obtain ⟨R2, R3, R4, j1, j2, j3, j4⟩ := join_any hn hK (s := 100 + 61) (o := 6) (r := 0) (by omega) (by omega) hpre (okT_dn (by omega) x) q2 (by omega) (by omega) (by omega) (by omega) (by decide) (fun bit z => by rw [z rfl]; decide) (fun _ => hw1) hsub
        rw [j1]
        dsimp only [Option.bind]
        rw [j2]
        dsimp only
        rw [show (6 : Int32) = nI 6 from rfl, j3]
        exact ⟨R4, rfl, fin R4 j4⟩
      · rw [decide_eq_false q2, if_neg Bool.false_ne_true]
        exact ⟨R1, rfl, Or.inl (okT_O (okT_stp (okT_dn (by omega) x) ⟨fun _ => x3.1 (by omega), fun _ => x3.2.1 (by omega), fun _ _ => ⟨q1, q2⟩⟩))⟩
  · rw [isSign_f (noO_18 no), isSign_f (noO_18 no), if_neg Bool.false_ne_true, if_neg Bool.false_ne_true]
    exact ⟨R1, rfl, Or.inr no⟩
theorem spec_step (hn : 2200 < n) (hK : KB b A K0) {d : Nat} (hd : d ≤ 7) (hE : d < 7 → SpecE n b A K0 (d + 1)) : SpecE n b A K0 d := by
  intro z0 q0 S k C J w Q i h g R hpre hb hg
  obtain ⟨g, rfl⟩ : ∃ g', g = g' + 1 := ⟨g - 1, by omega⟩
  have hpre' := hpre
  obtain ⟨p1, p2, p3, p4, p5, p6, p7, p8⟩ := hpre'
  have bad : ∀ a : Int32, a ≠ 0 → (∃ bb S1, X1_part S = some (bb, S1) ∧ S1 0 2 = a ∧ S1 0 3 = nI (tkB b A k) ∧ S1 0 8 = S 0 8) → noO n K0 q0 S k i 1 R (sC R 0 (am_u (am_u (R 0) 18 a) 19 (nI (tkB b A k)))) := fun a ha hp => no_of hK p1 (by omega) p2 p3 ha hp
  have nf : ∀ a : Int32, a ≠ 0 → ¬ (sC R 0 (am_u (am_u (R 0) 18 a) 19 (nI (tkB b A k)))) 0 18 = 0 := fun a ha => ha
  simp only [X8_readExpressionR]
  unfold X8_readExpression
  rw [if_pos p2.2.1]
  rcases tok_can hK p2.1 p2.2.1 with ⟨can, sk⟩ | ⟨c2, c1, cs, skn⟩
  · have e : (if R 0 13 = 2 then X8_readExpression_J33 n (X8_readExpressionR n g) R (nI d) else if R 0 13 = 1 then X8_readExpression_J33 n (X8_readExpressionR n g) R (nI d) else if X8_isSign R 40 = true then X8_readExpression_J33 n (X8_readExpressionR n g) R (nI d) else X8_readExpression_J38 n (X8_readExpressionR n g) R (nI d) 0) = X8_readExpression_J33 n (X8_readExpressionR n g) R (nI d) := by
      by_cases q : R 0 13 = 2
      · rw [if_pos q]
      · rw [if_neg q]
        by_cases q1 : R 0 13 = 1
        · rw [if_pos q1]
        · rw [if_neg q1]
          rcases can with c | c | c
          · exact absurd c q
          · exact absurd c q1
          · rw [c, if_pos rfl]
    rw [e]
    unfold X8_readExpression_J33 X8_readExpression_J38
    rw [if_neg (show ¬ (1 : Int32) = 0 by decide)]
    by_cases d7 : d = 7
    · rw [d7, if_pos (show nI 7 = (7 : Int32) from rfl), wrong_R p2.1 p2.2.1]
      dsimp only [Option.bind]
      rw [exprJ_f n hn _ (nf 2 (by decide))]
      exact ⟨_, rfl, Or.inr (bad 2 (by decide) (part_no hK p1 (Or.inr (Or.inl ⟨rfl, sk, Or.inl d7⟩))))⟩
    · rw [if_neg (show ¬ nI d = (7 : Int32) from fun z => d7 ((nI_eq (b := 7) (by omega) (by omega)).mp z))]
      exact expr_J62 hn hK (by omega) (hE (by omega)) hpre hb (by omega)
  · rw [if_neg c2, if_neg c1, cs, if_neg Bool.false_ne_true]
    unfold X8_readExpression_J38
    rw [if_pos rfl, wrong_R p2.1 p2.2.1]
    dsimp only [Option.bind]
    rw [exprJ_f n hn _ (nf 1 (by decide))]
    exact ⟨_, rfl, Or.inr (bad 1 (by decide) (part_no hK p1 (Or.inl ⟨rfl, skn⟩)))⟩
theorem spec_all (hn : 2200 < n) (hK : KB b A K0) : ∀ (e d : Nat), d + e = 7 → SpecE n b A K0 d := by
  intro e
  induction e with
  | zero => exact fun d hd => spec_step hn hK (by omega) (fun z => by omega)
  | succ e ih => exact fun d hd => spec_step hn hK (by omega) (fun _ => ih (d + 1) (by omega))
end WHOLE
