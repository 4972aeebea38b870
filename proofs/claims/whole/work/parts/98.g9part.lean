/-! AN EXPR IS READ: a part, all its ways -/
section PARTB
variable {n : Nat} {b : Nat → Int32} {A K0 k z0 q0 : Nat} {R S : am_M}
/-- the token is ')': the class closes -/
theorem close_L (hn : 2200 < n) (hK : KB b A K0) {C P J : List Int32} {d w i : Nat} (h : aI b A K0 z0 k C (P ++ 0 :: J) (d + 1) w S) (hs : SK b A (tkB b A k) = nI 141) (hi : i ≤ 700) (hP : ∀ x ∈ P, ¬ X1_rankOf x < 0) (h40 : (P ++ 0 :: J).length ≤ 40) (h9 : z0 + C.length + P.length < 900) : ∃ S', (∀ K, X1_ask_L51 n (K + 1) S 0 (nI i) = X1_ask_L51 n K S' 0 (nI (i + 1))) ∧ aI b A K0 z0 (k + 1) (C ++ P) J d w S' ∧ fA z0 S S' := by
  have d7 := h.2.2.2.2.2.2.2.1
  have hk : k < K0 := not_end hK h.1 (by rw [hs]; decide)
  obtain ⟨S', c1, c2, c3⟩ := close_C n hn hK h hk hP h40 h9
  refine ⟨S', fun K => ?_, c2, c3⟩
  have j0 : X1_jointOf S (nI 141) = 0 := by
    rw [jointOf_C h]
    split <;> rfl
  simp only [X1_ask_L51, X1_ask_B51, X1_ask_J134]
  rw [if_neg (show ¬ (700 : Int32) < nI i from fun y => by have := (nI_ltN (a := 700) (by omega) (by omega)).mp y; omega), if_pos h.2.1, if_pos True.intro, sort_C hK h.1, hs, j0, if_pos (show (0 : Int32) = 0 from rfl), if_pos (show nI 141 = (141 : Int32) from rfl), h.2.2.2.2.2.2.1, if_neg (show ¬ nI (d + 1) ≤ 0 from fun y => by have := (nI_leI (b := 0) (by omega) (by omega)).mp y; omega), c1, nI_1]
  rfl
/-- a parenthesis isn't closed -/
theorem stop_L (hK : KB b A K0) {C J : List Int32} {d w i j : Nat} (h : aI b A K0 z0 k C J (d + 1) w S) (hs : SK b A (tkB b A k) = nI j) (hj : j < 356) (hj1 : j ≠ 141) (hst : stp 0 (nI j) (w.testBit (d + 1))) (hi : i ≤ 700) (K : Nat) : X1_ask_L51 n (K + 1) S 0 (nI i) = X1_ask_J152 n (sC S 0 (am_u (am_u (S 0) 2 1) 3 (nI (tkB b A k)))) := by
  have d7 := h.2.2.2.2.2.2.2.1
  have j0 : X1_jointOf S (nI j) = 0 := by
    rw [jointOf_C h]
    exact jo_stop hj hst
  simp only [X1_ask_L51, X1_ask_B51]
  rw [if_neg (show ¬ (700 : Int32) < nI i from fun y => by have := (nI_ltN (a := 700) (by omega) (by omega)).mp y; omega), if_pos h.2.1, if_pos True.intro, sort_C hK h.1, hs, j0, if_pos (show (0 : Int32) = 0 from rfl), if_neg (show ¬ nI j = (141 : Int32) from fun y => hj1 ((nI_eq (b := 141) (by omega) (by omega)).mp y))]
  unfold X1_ask_J140
  rw [h.2.2.2.2.2.2.1, if_neg (show ¬ nI (d + 1) ≤ 0 from fun y => by have := (nI_leI (b := 0) (by omega) (by omega)).mp y; omega), refuse_C hK h.1 h.2.1]
  rfl
theorem pnd_0 {J : List Int32} : pnd (0 :: J) = pnd J := by
  show (if (0 : Int32) = 0 then 0 else 1) + pnd J = pnd J
  rw [if_pos rfl, Nat.zero_add]
theorem spec_part (hn : 2200 < n) (hK : KB b A K0) {d : Nat} (hd : d < 7) (hE : SpecE n b A K0 (d + 1)) {C J : List Int32} {w i h g : Nat} {Q : List Int32} (hpre : preO b A K0 z0 q0 S k C J d w Q i 3 h R) (hg : 9 ≤ g + (d + 1)) : ∃ R', X8_readPart n (X8_readExpressionR n g) R (nI d) = some R' ∧ (okO n b A K0 z0 q0 S k C J d w Q i 3 h R R' ∨ noO n K0 q0 S k i 1 R R') := by
  have hpre' := hpre
  obtain ⟨p1, p2, p3, p4, p5, p6, p7, p8⟩ := hpre'
  obtain ⟨r1, r2, r3, r4⟩ := p2
  have p2 : rI b A q0 k Q R := ⟨r1, r2, r3, r4⟩
  have kK := p1.1.2.2.1
  have A7 := hK.1
  have hby := hK.2.1
  have K0A := hK.2.2.1
  obtain ⟨tB, t16, tA, tl⟩ := r1
  have r1 : tkR b A k R := ⟨tB, t16, tA, tl⟩
  have bad : ∀ a : Int32, a ≠ 0 → (∃ bb S1, X1_part S = some (bb, S1) ∧ S1 0 2 = a ∧ S1 0 3 = nI (tkB b A k) ∧ S1 0 8 = S 0 8) → noO n K0 q0 S k i 1 R (sC R 0 (am_u (am_u (R 0) 18 a) 19 (nI (tkB b A k)))) := fun a ha hp => no_of hK p1 (by omega) p2 p3 ha hp
  have nf : ∀ a : Int32, a ≠ 0 → ¬ (sC R 0 (am_u (am_u (R 0) 18 a) 19 (nI (tkB b A k)))) 0 18 = 0 := fun a ha => ha
  by_cases q : tkB b A k < A
  · obtain ⟨t11, t17, k1, k2, k3⟩ := tl q
    have eb := enT_bd (b := b) q
    rcases cl_3 (b := b) (tkB b A k) with c | c | c
    · -- a word
      have sk : SK b A (tkB b A k) = nI (wix b (tkB b A k) (enT b A (tkB b A k))) := by
        unfold SK
        rw [if_pos q, if_pos c]
      have wl := wix_le (b := b) (p := tkB b A k) (e := enT b A (tkB b A k))
      have nm : NMT b A (tkB b A k) = 0 := by
        unfold NMT NM
        rw [if_pos q, if_neg (by omega)]
      unfold X8_readPart
      rw [if_pos r2, k1 c, if_neg (show ¬ (1 : Int32) = 2 by decide), if_pos rfl]
      rcases whichV_eq n hn A7 hby r1 r2 with ⟨v, v1, v2, v3⟩ | ⟨v2, v3⟩
      · rw [v3]
        dsimp only [Option.bind]
        rw [if_neg (pu_ne1 (by omega))]
        obtain ⟨R1, e1, e2, e3⟩ := emit_R p2 (by omega) (20 + nI v)
        have hk : k < K0 := not_end hK p1.1 (by
          rw [v2]
          intro z
          have := (nI_eq (b := 28) (by omega) (by omega)).mp z
          omega)
        obtain ⟨R2, f1, f2, f3⟩ := step_R n hn hK e2 hk
        refine ⟨R2, ?_, Or.inl (one_ok hn hK hd hpre (v := -1 - nI v) (Or.inr ⟨v, v1, v2, nm, rfl⟩) (Or.inr ⟨v, v1, rfl⟩) (by rw [encI_var v v1]; exact Nat.le_succ 1) (by rw [encI_var v v1]; exact f2) (fE_t e3 f3))⟩
        unfold X8_readPart_J65
        rw [e1]
        dsimp only [Option.bind]
        rw [if_pos e2.2.1, f1]
      · rw [v3]
        dsimp only [Option.bind]
        rw [if_pos rfl, wrong_R r1 r2]
        dsimp only
        refine ⟨_, ?_, Or.inr (bad 3 (by decide) (part_no hK p1 (Or.inr (Or.inr ⟨rfl, hd, nm, wix b (tkB b A k) (enT b A (tkB b A k)), wl, ?_, sk⟩))))⟩
        · unfold X8_readPart_J65
          rw [emit_f (nf 3 (by decide))]
          dsimp only [Option.bind]
          rw [if_neg (nf 3 (by decide))]
        · rcases Nat.lt_or_ge (wix b (tkB b A k) (enT b A (tkB b A k))) 11 with z | z
          · exact Or.inl z
          · refine Or.inr ?_
            rcases Nat.lt_or_ge 17 (wix b (tkB b A k) (enT b A (tkB b A k))) with y | y
            · exact y
            · exact absurd (by rw [sk, show 11 + (wix b (tkB b A k) (enT b A (tkB b A k)) - 11) = wix b (tkB b A k) (enT b A (tkB b A k)) by omega]) (v2 (wix b (tkB b A k) (enT b A (tkB b A k)) - 11) (by omega))
    · -- a number
      obtain ⟨k13, k15⟩ := k2 c
      have sk : SK b A (tkB b A k) = 27 := by
        unfold SK
        rw [if_pos q, if_neg (by omega), if_pos c]
      have hk : k < K0 := not_end hK p1.1 (by rw [sk]; decide)
      obtain ⟨u, hu⟩ : ∃ u, enT b A (tkB b A k) = tkB b A k + u := ⟨enT b A (tkB b A k) - tkB b A k, by omega⟩
      have e17 : R 0 17 - R 0 16 = nI u := by rw [t17, t16, hu, nI_asub]
      unfold X8_readPart X8_readNumber
      rw [if_pos r2, k13, if_pos rfl, if_pos r2, if_pos rfl, e17]
      by_cases u4 : u ≤ 4
      · have all2 : ∀ j, j < u → cl b (tkB b A k + j) = 2 := by
          have R2 : enT b A (tkB b A k) = rn b A 2 (tkB b A k + 1) := by
            unfold enT
            rw [if_neg (by omega), c]
          have M : ∀ (e p : Nat), p + e = A → ∀ x, p ≤ x → x < rn b A 2 p → cl b x = 2 := by
            intro e
            induction e with
            | zero =>
              intro p hp x h1 h2
              rw [show p = A by omega, rn_A] at h2
              omega
            | succ e ih =>
              intro p hp x h1 h2
              rw [rn_lt (by omega)] at h2
              by_cases z : cl b p = 2
              · rw [if_pos z] at h2
                by_cases y : x = p
                · rw [y]; exact z
                · exact ih (p + 1) (by omega) x (by omega) h2
              · rw [if_neg z] at h2
                omega
          intro j hj
          by_cases y : j = 0
          · rw [y]; exact c
          · exact M (A - (tkB b A k + 1)) (tkB b A k + 1) (by omega) (tkB b A k + j) (by omega) (by rw [← R2, hu]; omega)
        obtain ⟨x, x1, x2⟩ := nv_val (b := b) (s := tkB b A k) u all2 (by omega)
        have p10 : 10 ^ u ≤ 10 ^ 4 := Nat.pow_le_pow_right (by omega) u4
        have x9 : x ≤ 9999 := by omega
        have e15 : R 0 15 = nI x := by
          have := k15 (by omega)
          rw [show enT b A (tkB b A k) - tkB b A k = u by omega, x2] at this
          exact this
        have nm : NMT b A (tkB b A k) = nI x := by
          unfold NMT NM
          rw [if_pos q, if_pos c, show enT b A (tkB b A k) - tkB b A k = u by omega, if_pos u4, x2]
        obtain ⟨R1, f1, f2, f3⟩ := step_R n hn hK p2 hk
        obtain ⟨R2, g1, g2, g3⟩ := emit_R f2 (by omega) 0
        obtain ⟨R3, h1, h2, h3⟩ := emit_R g2 (by rw [List.length_append]; show q0 + (Q.length + 1) < 1080; omega) (nI x)
        rw [if_neg (show ¬ (4 : Int32) < nI u from fun y => by have := (nI_ltN (a := 4) (by omega) (by omega)).mp y; omega), e15, if_neg (nI_n0 (by omega)), if_pos (show nI x ≤ (9999 : Int32) from (nI_leI (b := 9999) (by omega) (by omega)).mpr x9)]
        refine ⟨R3, ?_, Or.inl (one_ok hn hK hd hpre (v := nI x) (Or.inl ⟨sk, nm, pu_ne1 (by omega)⟩) (Or.inl ⟨x, x9, rfl⟩) (by rw [encI_num x x9]; exact Nat.le_refl 2) (by rw [encI_num x x9, show Q ++ [0, nI x] = (Q ++ [0]) ++ [nI x] by rw [List.append_assoc]; rfl]; exact h2) (fE_t f3 (fE_t g3 h3)))⟩
        unfold X8_readNumber_J59
        rw [if_pos r2, f1]
        dsimp only [Option.bind]
        rw [g1]
        dsimp only
        rw [e15, h1]
      · rw [if_pos (show (4 : Int32) < nI u from (nI_ltN (a := 4) (by omega) (by omega)).mpr (by omega))]
        have nm : NMT b A (tkB b A k) = -1 := by
          unfold NMT NM
          rw [if_pos q, if_pos c, show enT b A (tkB b A k) - tkB b A k = u by omega, if_neg u4]
        refine ⟨_, ?_, Or.inr (bad 2 (by decide) (part_no hK p1 (Or.inr (Or.inl ⟨rfl, Or.inl sk, Or.inr nm⟩))))⟩
        unfold X8_readNumber_J54 X8_readNumber_J59
        rw [wrong_R r1 r2]
        dsimp only [Option.bind]
        rw [if_neg (nf 2 (by decide))]
        dsimp only
        rw [emit_f (nf 2 (by decide))]
        dsimp only
        rw [emit_f (nf 2 (by decide))]
    · -- a sign
      obtain ⟨x14, x13⟩ := k3 c
      obtain ⟨v, v1, v2⟩ := hby _ q
      have sk : SK b A (tkB b A k) = nI (100 + v) := by
        unfold SK
        rw [if_pos q, if_neg (by omega), if_neg (by omega), v2]
        exact nI_add 100 v
      have nm : NMT b A (tkB b A k) = 0 := by
        unfold NMT NM
        rw [if_pos q, if_neg (by omega)]
      have n13 : ¬ R 0 13 = 2 ∧ ¬ R 0 13 = 1 := by
        rcases x13 with ⟨y, -⟩ | ⟨y, -⟩ <;> rw [y] <;> exact ⟨by decide, by decide⟩
      have sg := isSign_eq A7 hby (c := 40) r1 r2 (by omega) (Or.inr (Or.inl rfl))
      unfold X8_readPart
      rw [if_pos r2, if_neg n13.1, if_neg n13.2, show (40 : Int32) = nI 40 from rfl, sg]
      by_cases y : SK b A (tkB b A k) = nI (100 + 40)
      · rw [decide_eq_true y, if_pos rfl]
        obtain ⟨S1, o1, o2, o3⟩ := open_C n hK p1 hd (by omega) y nm
        have hk : k < K0 := not_end hK p1.1 (by rw [y]; decide)
        obtain ⟨R1, f1, f2, f3⟩ := step_R n hn hK p2 hk
        have w256 := p1.2.2.2.2.2.2.2.2.2
        obtain ⟨R2, x1, x2⟩ := hE z0 q0 S1 (k + 1) C (0 :: J) (clrB w (d + 1)) Q (i + 1) h g R1 ⟨o2, f2, by omega, fun x hx => by rw [← Option.some.inj hx]; decide, by show J.length + 1 ≤ _; omega, by omega, by rw [pnd_0]; omega, by rw [pnd_0]; omega⟩ (by rw [clrB_bit w w256 (d + 1) (by omega) (d + 1) (by omega), if_pos rfl]) hg
        rw [f1]
        dsimp only [Option.bind]
        rw [nI_1, x1]
        dsimp only
        rcases x2 with ⟨t, S2, C1, P, w2, y1, y2, y3, y4, y5, y6, y7, y8, y9, y10, y11, y12, y13⟩ | ⟨t, S2, κ, π, y1, y2, y3, y4, y5, y6, y7, y8, y9⟩
        · rw [pnd_0] at y10 y11
          have kk := y2.1.2.2.1
          obtain ⟨j, j1, j2⟩ := SK_n A7 hby (p := tkB b A (k + 1 + t))
          have sg2 := isSign_eq A7 hby (c := 41) y4.1 y4.2.1 (by omega) (Or.inr (Or.inr (Or.inl rfl)))
          have hPl : (P ++ 0 :: J).length = P.length + (J.length + 1) := List.length_append
          by_cases j141 : j = 141
          · have s141 : SK b A (tkB b A (k + 1 + t)) = nI 141 := by rw [j2, j141]
            obtain ⟨S3, c1, c2, c3⟩ := close_L (n := n) (i := i + 1 + t) hn hK y2 s141 (by omega) (fun x hx => (y6 x hx).1) (by omega) (by omega)
            have hk2 : k + 1 + t < K0 := not_end hK y2.1 (by rw [s141]; decide)
            obtain ⟨R3, g1, g2, g3⟩ := step_R n hn hK y4 hk2
            refine ⟨R3, ?_, Or.inl ⟨t + 2, S3, C1 ++ P, [], w2, fun K => ?_, ?_, fA_t o3 (fA_t y3 c3), ?_, fE_t f3 (fE_t y5 g3), fun x hx => absurd hx List.not_mem_nil, by decide, by rw [List.append_nil]; exact y8, by rw [List.append_nil]; exact y9, ?_, ?_, ⟨fun z => absurd z (by decide), fun z => absurd z (by decide), fun z => absurd z (by decide)⟩, fun e e1 e2 => ?_⟩⟩
            · unfold X8_need X8_need_J20
              rw [if_pos y4.2.1, show (41 : Int32) = nI 41 from rfl, sg2, decide_eq_true s141, if_pos rfl, if_pos y4.2.1, g1]
              rfl
            · rw [show K + (t + 2) = (K + 1 + t) + 1 by omega, o1 _ i (by omega), y1 (K + 1), c1 K, show i + 1 + t + 1 = i + (t + 2) by omega]
            · rw [← List.append_assoc, show k + (t + 2) = k + 1 + t + 1 by omega]
              exact c2
            · rw [List.append_nil, show k + (t + 2) = k + 1 + t + 1 by omega]
              exact g2
            · rw [← List.append_assoc, List.length_append]
              show z0 + ((C ++ C1).length + P.length) + 0 + pnd J + 1 ≤ k + (t + 2)
              omega
            · rw [List.append_nil]
              omega
            · rw [y13 e e1 (Or.inl (by omega)), clrB_bit w w256 (d + 1) (by omega) e e1, if_neg (by omega)]
          · refine ⟨sC R2 0 (am_u (am_u (R2 0) 18 1) 19 (nI (tkB b A (k + 1 + t)))), ?_, Or.inr ⟨t + 2, sC S2 0 (am_u (am_u (S2 0) 2 1) 3 (nI (tkB b A (k + 1 + t)))), 1, nI (tkB b A (k + 1 + t)), fun K => ?_, by omega, by decide, rfl, rfl, ⟨(P ++ 0 :: J).length, by omega, y2.2.2.2.2.1⟩, rfl, rfl, fE_t f3 (fE_t y5 ⟨fun c q1 q2 => sC_ne q1, fun j hj => ?_, fun _ _ => rfl⟩)⟩⟩
            · unfold X8_need X8_need_J20
              rw [if_pos y4.2.1, show (41 : Int32) = nI 41 from rfl, sg2, decide_eq_false (fun z => j141 ((nI_eq (b := 141) (by omega) (by omega)).mp (j2.symm.trans z))), if_neg Bool.false_ne_true, wrong_R y4.1 y4.2.1]
              dsimp only [Option.bind]
              rw [if_neg (show ¬ (sC R2 0 (am_u (am_u (R2 0) 18 1) 19 (nI (tkB b A (k + 1 + t))))) 0 18 = 0 from (by decide : ¬ (1 : Int32) = 0))]
            · rw [show K + (t + 2) = (K + 1 + t) + 1 by omega, o1 _ i (by omega), y1 (K + 1)]
              rw [j2] at y12
              exact stop_L hK y2 j2 j1 j141 y12 (by omega) K
            · show am_u (am_u (R2 0) 18 1) 19 (nI (tkB b A (k + 1 + t))) j = _
              rw [am_u_ne (by omega), am_u_ne (by omega)]
        · rw [need_f n (by rw [y7]; exact y3)]
          refine ⟨R2, rfl, Or.inr ⟨t + 1, S2, κ, π, fun K => ?_, by omega, y3, y4, y5, y6, y7, y8, fE_t f3 y9⟩⟩
          rw [show K + (t + 1) = (K + t) + 1 by omega, o1 _ i (by omega)]
          exact y1 K
      · rw [decide_eq_false y, if_neg Bool.false_ne_true, wrong_R r1 r2]
        exact ⟨_, rfl, Or.inr (bad 1 (by decide) (part_no hK p1 (Or.inl ⟨rfl, 100 + v, by omega, by omega, fun z => y (by rw [sk, z]), sk⟩)))⟩
  · have e : tkB b A k = A := by
      have := tkB_le (b := b) (A := A) k
      omega
    have sk : SK b A (tkB b A k) = nI 28 := by
      unfold SK
      rw [if_neg q]
      rfl
    have sg := isSign_eq A7 hby (c := 40) r1 r2 (by omega) (Or.inr (Or.inl rfl))
    unfold X8_readPart
    rw [if_pos r2, (tA e).1, if_neg (show ¬ (0 : Int32) = 2 by decide), if_neg (show ¬ (0 : Int32) = 1 by decide), show (40 : Int32) = nI 40 from rfl, sg, decide_eq_false (by rw [sk]; decide), if_neg Bool.false_ne_true, wrong_R r1 r2]
    exact ⟨_, rfl, Or.inr (bad 1 (by decide) (part_no hK p1 (Or.inl ⟨rfl, 28, by omega, by omega, by omega, sk⟩)))⟩
end PARTB
