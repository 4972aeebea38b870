/-! STEPS ARE READ: all of them -/
section BLOCK
variable {n : Nat} {b : Nat → Int32} {A K0 : Nat} {S R : am_M}
/-- the text's end, to both -/
theorem tok_e (hK : KB b A K0) {k : Nat} (r1 : tkR b A k R) : (R 0 13 = 0 ∧ SK b A (tkB b A k) = 28) ∨ (¬ R 0 13 = 0 ∧ SK b A (tkB b A k) ≠ 28) := by
  obtain ⟨tB, t16, tA, tl⟩ := r1
  by_cases q : tkB b A k < A
  · obtain ⟨t11, t17, k1, k2, k3⟩ := tl q
    have wl := wix_le (b := b) (p := tkB b A k) (e := enT b A (tkB b A k))
    refine Or.inr ⟨?_, ?_⟩
    · rcases cl_3 (b := b) (tkB b A k) with c | c | c
      · rw [k1 c]; decide
      · rw [(k2 c).1]; decide
      · rcases (k3 c).2 with ⟨y, -⟩ | ⟨y, -⟩ <;> rw [y] <;> decide
    · obtain ⟨v, v1, v2⟩ := hK.2.1 _ q
      unfold SK
      rw [if_pos q]
      by_cases c1 : cl b (tkB b A k) = 1
      · rw [if_pos c1]
        exact fun z => by have := (nI_eq (b := 28) (by omega) (by omega)).mp z; omega
      · rw [if_neg c1]
        by_cases c2 : cl b (tkB b A k) = 2
        · rw [if_pos c2]
          decide
        · rw [if_neg c2, v2, show (100 : Int32) + nI v = nI (100 + v) from nI_add 100 v]
          exact fun z => by have := (nI_eq (b := 28) (by omega) (by omega)).mp z; omega
  · have e : tkB b A k = A := by
      have := tkB_le (b := b) (A := A) k
      omega
    refine Or.inl ⟨(tA e).1, ?_⟩
    unfold SK
    rw [if_neg q]
/-- any STEP -/
theorem step_spec (hn : 2200 < n) (hK : KB b A K0) {k z q N f i g : Nat} (hf : f ≤ 4) (hE : f < 4 → SpecB n b A K0 (f + 1)) (hg : f < 4 → 5 ≤ g + (f + 1)) (h : bF b A K0 S R k z q N f) (hi : i ≤ k) (t28 : SK b A (tkB b A k) ≠ 28) (tf : f ≠ 0 → SK b A (tkB b A k) ≠ nI 24 ∧ SK b A (tkB b A k) ≠ nI 25) : ∃ R', X8_readStep n (X8_readStepsR n g) R (nI f) = some R' ∧ (okSt n b A K0 S R k i z q N f R' ∨ failO n K0 S i k R R') := by
  have A7 := hK.1
  have K0A := hK.2.2.1
  have kk := bF_k h
  have a := h.1
  have r1 := a.2.2.2.1
  have r2 := a.2.2.2.2.1
  have h41 : R 4 (1 : Int32).toNatClampNeg = nI N := h.2.2.2.2.2.1
  have N40 := h.2.2.2.2.1
  have j49 : ∀ (R' : am_M) (x y : Int32), ¬ R' 0 18 = 0 → X8_readStep_J49 n (X8_readStepsR n g) R' x y = some R' := fun R' x y hr => by
    unfold X8_readStep_J49
    rw [if_neg hr]
  unfold X8_readStep X8_readStep_J44
  rcases which_eq n hn A7 hK.2.1 r1 r2 with ⟨kd, k10, w2, w3⟩ | ⟨w2, w3⟩
  · rw [w3]
    dsimp only [Option.bind]
    rw [if_neg (pu_ne1 (by omega)), h41]
    obtain ⟨f1, f2, f3, f4, f5⟩ := bN_of hK a (a := 2) (by decide)
    have bad : X1_oneStep n S (nI kd) = X1_oneStep_J26 n S → ∃ R', (X8_wrong R 2).bind (fun q1 => X8_readStep_J49 n (X8_readStepsR n g) q1 (nI f) (nI kd)) = some R' ∧ (okSt n b A K0 S R k i z q N f R' ∨ failO n K0 S i k R R') := fun ho => by
      rw [f2]
      dsimp only [Option.bind]
      rw [j49 _ _ _ f5]
      refine ⟨_, rfl, Or.inr (fail_of kk (fun K => ?_) f3 f4)⟩
      rw [L32_go hK a (by omega) (show kd < 356 by omega) w2 (by omega), if_neg (by omega), ho]
      unfold X1_oneStep_J26
      rw [f1] <;> rfl
    by_cases q40 : N = 40
    · rw [if_pos (show nI N = 40 by rw [q40] <;> rfl)]
      refine bad ?_
      unfold X1_oneStep
      rw [h.2.1, q40, if_pos (show (40 : Int32) ≤ nI 40 from Int32.le_refl _)]
    · rw [if_neg (show ¬ nI N = 40 from fun z => q40 ((nI_eq (b := 40) (by omega) (by omega)).mp z))]
      by_cases q10 : kd = 10
      · rw [if_pos (show nI kd = 10 by rw [q10] <;> rfl)]
        by_cases f4' : f = 4
        · rw [if_pos (show nI f = 4 by rw [f4'] <;> rfl)]
          refine bad ?_
          unfold X1_oneStep
          rw [h.2.1, if_neg (show ¬ (40 : Int32) ≤ nI N from fun y => by have := (nI_leI (a := 40) (by omega) (by omega)).mp y; omega), if_pos (show nI kd = 10 by rw [q10] <;> rfl), h.2.2.2.1, f4', if_neg (show ¬ nI 4 < (4 : Int32) by decide)]
        · rw [if_neg (show ¬ nI f = 4 from fun z => f4' ((nI_eq (b := 4) (by omega) (by omega)).mp z)), q10]
          rw [q10] at w2
          exact step_if hn hK (by omega) (hE (by omega)) (hg (by omega)) h hi (by omega) w2
      · rw [if_neg (show ¬ nI kd = 10 from fun z => q10 ((nI_eq (b := 10) (by omega) (by omega)).mp z))]
        exact step_one hn hK h hi (by omega) (by omega) w2 _ _
  · rw [w3]
    dsimp only [Option.bind]
    rw [if_pos rfl]
    obtain ⟨f1, f2, f3, f4, f5⟩ := bN_of hK a (a := 1) (by decide)
    rw [f2]
    dsimp only
    rw [j49 _ _ _ f5]
    obtain ⟨j, j1, j2⟩ := SK_n A7 hK.2.1 (p := tkB b A k)
    have j10 : 10 < j := by
      rcases Nat.lt_or_ge 10 j with y | y
      · exact y
      · exact absurd j2 (w2 j y)
    exact ⟨_, rfl, Or.inr (fail_of kk (step_no hn hK h hi j1 j2 (fun z => t28 (by rw [j2, z] <;> rfl)) j10 (fun z => ⟨fun y => (tf z).1 (by rw [j2, y]), fun y => (tf z).2 (by rw [j2, y])⟩)) f3 f4)⟩
/-- the loop over the STEPS of a block -/
def invL (n : Nat) (b : Nat → Int32) (A K0 : Nat) (S R : am_M) (k i z q N0 f : Nat) (t : Nat) (S1 R1 : am_M) (k1 z1 q1 N1 last : Nat) : Prop := run n S i t S1 ∧ bF b A K0 S1 R1 k1 z1 q1 N1 f ∧ N0 ≤ N1 ∧ k + t ≤ k1 ∧ z ≤ z1 ∧ q ≤ q1 ∧ gC N0 z f S S1 ∧ gR N0 q R R1 ∧ (N0 < N1 → N0 ≤ last ∧ last < N1 ∧ bh R1 last = -1) ∧ ∀ s, N0 ≤ s → s < N1 → sF S1 R1 s z1 q1 ∧ ∃ tg, s < tg ∧ tg ≤ N1 ∧ lF S1 R1 s tg ∧ (tg < N1 → rch (bh R1) (5 - f) s (nI tg)) ∧ (tg = N1 → s = last ∨ pch (bh R1) (4 - f) s last)
theorem gR11 {N q x : Nat} (hx : N ≤ x) {v : Int32} : gR N q R (sC R 11 (upd (R 11) (40 + x) v)) := ⟨fun c h1 h2 => sC_ne (by omega), fun _ _ => rfl, rfl, fun c h j hj => by
  by_cases c12 : c = 11
  · rw [c12]; exact upd_ne (by omega)
  · rw [sC_ne c12], fun _ _ => ⟨rfl, rfl⟩, fun _ _ => rfl⟩
theorem bh_11 {x : Nat} {v : Int32} : ∀ y, bh (sC R 11 (upd (R 11) (40 + x) v)) y = if y = x then v else bh R y := fun y => by
  show upd (R 11) (40 + x) v (40 + y) = _
  by_cases q : y = x
  · rw [if_pos q, q, upd_eq]
  · rw [if_neg q, upd_ne (by omega)] <;> rfl
theorem sF_11 {s z q x : Nat} {v : Int32} (h : sF S R s z q) : sF S (sC R 11 (upd (R 11) (40 + x) v)) s z q := sF_st h rfl rfl rfl (fun _ _ => rfl) (fun _ _ => rfl) rfl rfl rfl (fun _ _ => ⟨rfl, rfl⟩) (fun _ _ => rfl) (Nat.le_refl _) (Nat.le_refl _)
theorem bF_11 {k z q N f x : Nat} {v : Int32} (h : bF b A K0 S R k z q N f) : bF b A K0 S (sC R 11 (upd (R 11) (40 + x) v)) k z q N f := h
/-- a block ends -/
theorem blk_end {k i z q N0 f a t k1 z1 q1 N1 last : Nat} {S1 R1 : am_M} {rE : am_M → Int32 → Int32 → Option (Int32 × am_M)} (hf : f ≤ 4) (ha : f ≠ 0 → a < N0) (h : invL n b A K0 S R k i z q N0 f t S1 R1 k1 z1 q1 N1 last) (tok : SK b A (tkB b A k1) = 28 ∨ (f ≠ 0 ∧ (SK b A (tkB b A k1) = 24 ∨ SK b A (tkB b A k1) = 25))) : ∃ first R', X8_readSteps_J97 n rE R1 (if f = 0 then -1 else nI a) (if N0 = N1 then -1 else nI N0) (if N0 = N1 then -1 else nI last) = some (first, R') ∧ okB n b A K0 S R k i z q N0 f a first R' := by
  obtain ⟨h1, h2, h3, h4, h5, h6, h7, h8, h9, h10⟩ := h
  have N40 := h2.2.2.2.2.1
  unfold X8_readSteps_J97 X8_readSteps_J125
  by_cases e : N0 = N1
  · rw [if_pos e, if_pos e, if_pos rfl]
    exact ⟨_, _, rfl, t, S1, k1, z1, q1, N1, h1, h2, h3, h4, h5, h6, h7, h8, tok, by rw [if_pos e], fun s p1 p2 => by omega⟩
  · obtain ⟨l1, l2, l3⟩ := h9 (by omega)
    rw [if_neg e, if_neg e, if_neg (pu_ne1 (by omega)), show (40 : Int32) + nI last = nI (40 + last) from nI_add 40 last, if_neg (pu_g (n := 80) (by omega) (by omega)), if_neg (pu_g (n := 80) (by omega) (by omega)), nI_clamp (by omega)]
    have core : ∀ v : Int32, ((f = 0 ∧ v = -1) ∨ (f ≠ 0 ∧ v = -2 - nI a)) → okB n b A K0 S R k i z q N0 f a (nI N0) (sC R1 11 (upd (R1 11) (40 + last) v)) := fun v hv => by
      have st : ∀ x, bh R1 x ≠ -1 → bh (sC R1 11 (upd (R1 11) (40 + last) v)) x = bh R1 x := fun x hx => by
        rw [bh_11, if_neg (fun z => hx (by rw [z]; exact l3))]
      have lv : bh (sC R1 11 (upd (R1 11) (40 + last) v)) last = v := by rw [bh_11, if_pos rfl]
      refine ⟨t, S1, k1, z1, q1, N1, h1, bF_11 h2, h3, h4, h5, h6, h7, gR_t (Nat.le_refl _) (Nat.le_refl _) (q1 := q) h8 (gR11 l1), tok, by rw [if_neg e], fun s p1 p2 => ?_⟩
      obtain ⟨x1, tg, x2, x3, x4, x5, x6⟩ := h10 s p1 p2
      refine ⟨sF_11 x1, tg, x2, x3, lF_R x4 rfl rfl, fun y => rch_st (pu_ne1 (by omega)) _ s (by omega) (fun x _ hx => st x hx) (x5 y), fun y => ?_⟩
      rcases hv with ⟨f0, rfl⟩ | ⟨f0, rfl⟩
      · rw [if_pos f0, f0]
        rcases x6 y with z | z
        · rw [z]
          exact rch_0 lv _
        · rw [f0] at z
          exact pch_r lv 4 s (pch_st _ s (by omega) (fun x _ hx => st x hx) z)
      · rw [if_neg f0]
        have hal : a < last := by have := ha f0; omega
        rcases x6 y with z | z
        · rw [z]
          exact pch_0 hal lv _
        · rw [show 5 - f = 4 - f + 1 by omega]
          exact pch_p hal lv _ s (pch_st _ s (by omega) (fun x _ hx => st x hx) z)
    by_cases f0 : f = 0
    · rw [if_pos f0, if_pos rfl]
      exact ⟨_, _, rfl, core _ (Or.inl ⟨f0, rfl⟩)⟩
    · have := ha f0
      rw [if_neg f0, if_neg (pu_ne1 (by omega))]
      exact ⟨_, _, rfl, core _ (Or.inr ⟨f0, rfl⟩)⟩
theorem blk_loop (hn : 2200 < n) (hK : KB b A K0) {k i z q N0 f a g : Nat} (hf : f ≤ 4) (hE : f < 4 → SpecB n b A K0 (f + 1)) (hg : f < 4 → 5 ≤ g + (f + 1)) (hi : i ≤ k) (ha : f ≠ 0 → a < N0) : ∀ (Kf t : Nat) (S1 R1 : am_M) (k1 z1 q1 N1 last : Nat), K0 < Kf + k1 → invL n b A K0 S R k i z q N0 f t S1 R1 k1 z1 q1 N1 last → ∃ first R', X8_readSteps_L5 n (X8_readStepsR n g) Kf R1 (nI f) (if f = 0 then -1 else nI a) (if N0 = N1 then -1 else nI N0) (if N0 = N1 then -1 else nI last) = some (first, R') ∧ (okB n b A K0 S R k i z q N0 f a first R' ∨ failO n K0 S i k R R') := by
  intro Kf
  induction Kf with
  | zero =>
    intro t S1 R1 k1 z1 q1 N1 last hk h
    have := bF_k h.2.1
    omega
  | succ Kf ih =>
    intro t S1 R1 k1 z1 q1 N1 last hk h
    have h' := h
    obtain ⟨h1, h2, h3, h4, h5, h6, h7, h8, h9, h10⟩ := h
    have N40 := h2.2.2.2.2.1
    have r2 := h2.1.2.2.2.2.1
    have r1 := h2.1.2.2.2.1
    have h41 : R1 4 (1 : Int32).toNatClampNeg = nI N1 := h2.2.2.2.2.2.1
    have go : SK b A (tkB b A k1) ≠ 28 → (f ≠ 0 → SK b A (tkB b A k1) ≠ nI 24 ∧ SK b A (tkB b A k1) ≠ nI 25) → ∃ first R', X8_readSteps_J44 n (X8_readStepsR n g) (X8_readSteps_L5 n (X8_readStepsR n g) Kf) R1 (nI f) (if f = 0 then -1 else nI a) (if N0 = N1 then -1 else nI N0) (if N0 = N1 then -1 else nI last) = some (first, R') ∧ (okB n b A K0 S R k i z q N0 f a first R' ∨ failO n K0 S i k R R') := fun t28 tf => by
      obtain ⟨R2, e1, e2⟩ := step_spec hn hK hf hE hg h2 (i := i + t) (by omega) t28 tf
      unfold X8_readSteps_J44 X8_readSteps_J90
      rw [e1]
      dsimp only [Option.bind]
      rcases e2 with ⟨t2, S2, k2, z2, q2, N2, u1, u2, u3, u4, u5, u6, u7, u8, u9, u10, u11, u12, u13⟩ | e2
      · have N402 := u2.2.2.2.2.1
        rw [if_pos u2.1.2.2.2.2.1, h41]
        by_cases e : N0 = N1
        · rw [if_pos e, if_pos e, if_pos rfl]
          have := ih (t + t2) S2 R2 k2 z2 q2 N2 N1 (by omega) ⟨run_t h1 u1, u2, by omega, by omega, by omega, by omega, gC_t h3 h5 (Nat.le_refl _) h7 u8, gR_t h3 h6 h8 u9, fun _ => ⟨h3, u3, u12⟩, fun s p1 p2 => by
            by_cases sN : s = N1
            · rw [sN]
              exact ⟨u10, N2, u3, Nat.le_refl _, u11, fun y => absurd y (Nat.lt_irrefl _), fun _ => Or.inl rfl⟩
            · obtain ⟨x1, tg, x2, x3, x4, x5, x6⟩ := u13 s (by omega) p2
              refine ⟨x1, tg, x2, x3, x4, fun y => ?_, fun y => Or.inr (x6 y)⟩
              rw [show 5 - f = 4 - f + 1 by omega]
              exact rch_up _ _ (x5 y)⟩
          rw [if_neg (show ¬ N0 = N2 by omega), if_neg (show ¬ N0 = N2 by omega), e] at this
          rw [e]
          exact this
        · obtain ⟨l1, l2, l3⟩ := h9 (by omega)
          rw [if_neg e, if_neg e, if_neg (pu_ne1 (by omega)), show (40 : Int32) + nI last = nI (40 + last) from nI_add 40 last, if_neg (pu_g (n := 80) (by omega) (by omega)), nI_clamp (by omega)]
          have b2 : ∀ x, x < N1 → bh R2 x = bh R1 x := bh_g u9
          have st : ∀ x, x < N1 → bh R1 x ≠ -1 → bh (sC R2 11 (upd (R2 11) (40 + last) (nI N1))) x = bh R1 x := fun x hx hx1 => by
            rw [bh_11, if_neg (fun z => hx1 (by rw [z]; exact l3)), b2 x hx]
          have lv : bh (sC R2 11 (upd (R2 11) (40 + last) (nI N1))) last = nI N1 := by rw [bh_11, if_pos rfl]
          have st2 : ∀ x, bh R2 x ≠ -1 → bh (sC R2 11 (upd (R2 11) (40 + last) (nI N1))) x = bh R2 x := fun x hx1 => by
            rw [bh_11, if_neg (fun z => hx1 (by rw [z, b2 last l2]; exact l3))]
          have := ih (t + t2) S2 (sC R2 11 (upd (R2 11) (40 + last) (nI N1))) k2 z2 q2 N2 N1 (by omega) ⟨run_t h1 u1, bF_11 u2, by omega, by omega, by omega, by omega, gC_t h3 h5 (Nat.le_refl _) h7 u8, gR_t (Nat.le_refl _) (Nat.le_refl _) (q1 := q) (gR_t h3 h6 h8 u9) (gR11 l1), fun _ => ⟨h3, u3, by rw [bh_11, if_neg (by omega)]; exact u12⟩, fun s p1 p2 => by
            by_cases sN : s = N1
            · rw [sN]
              exact ⟨sF_11 u10, N2, u3, Nat.le_refl _, lF_R u11 rfl rfl, fun y => absurd y (Nat.lt_irrefl _), fun _ => Or.inl rfl⟩
            · rcases Nat.lt_or_ge s N1 with sl | sl
              · obtain ⟨x1, tg, x2, x3, x4, x5, x6⟩ := h10 s p1 sl
                refine ⟨sF_11 (sF_g x1 sl u8 u9 u6 u7), tg, x2, by omega, lF_R (lF_g x4 sl u8 u9) rfl rfl, fun y => ?_, fun y => by omega⟩
                by_cases tN : tg = N1
                · rw [tN]
                  rcases x6 tN with y2 | y2
                  · rw [y2]
                    exact rch_0 lv _
                  · have r := pch_r lv _ s (pch_st _ s (by omega) (fun x hx hx1 => st x (by omega) hx1) y2)
                    rw [show 5 - f = 4 - f + 1 by omega]
                    exact r
                · exact rch_st (pu_ne1 (by omega)) _ s (by omega) (fun x hx hx1 => st x (by omega) hx1) (x5 (by omega))
              · obtain ⟨x1, tg, x2, x3, x4, x5, x6⟩ := u13 s (by omega) p2
                refine ⟨sF_11 x1, tg, x2, x3, lF_R x4 rfl rfl, fun y => ?_, fun y => Or.inr (pch_st _ s (by omega) (fun x _ hx1 => st2 x hx1) (x6 y))⟩
                have r := rch_up _ _ (rch_st (pu_ne1 (by omega)) _ s (by omega) (fun x _ hx1 => st2 x hx1) (x5 y))
                rw [show 5 - f = 4 - f + 1 by omega]
                exact r⟩
          rw [if_neg (show ¬ N0 = N2 by omega), if_neg (show ¬ N0 = N2 by omega)] at this
          exact this
      · have f2 : ¬ R2 0 18 = 0 := by
          obtain ⟨t', S', o1, o2, o3, o4⟩ := e2
          rw [o3.2.1]
          exact o3.1
        rw [if_neg f2]
        exact ⟨_, _, rfl, Or.inr (fail_t h1 h4 (gR_0 h8) e2)⟩
    have fin : (SK b A (tkB b A k1) = 28 ∨ (f ≠ 0 ∧ (SK b A (tkB b A k1) = 24 ∨ SK b A (tkB b A k1) = 25))) → ∃ first R', X8_readSteps_J97 n (X8_readStepsR n g) R1 (if f = 0 then -1 else nI a) (if N0 = N1 then -1 else nI N0) (if N0 = N1 then -1 else nI last) = some (first, R') ∧ (okB n b A K0 S R k i z q N0 f a first R' ∨ failO n K0 S i k R R') := fun tok => by
      obtain ⟨first, R', e1, e2⟩ := blk_end (rE := X8_readStepsR n g) hf ha h' tok
      exact ⟨first, R', e1, Or.inl e2⟩
    rw [X8_readSteps_L5]
    dsimp only
    unfold X8_readSteps_B5
    rw [if_pos r2]
    rcases tok_e hK r1 with ⟨t13, t28⟩ | ⟨t13, t28⟩
    · rw [if_pos t13]
      exact fin (Or.inl t28)
    · rw [if_neg t13]
      by_cases f0 : f = 0
      · rw [if_pos (show (if f = 0 then (-1 : Int32) else nI a) = -1 by rw [if_pos f0])]
        exact go t28 (fun z => absurd f0 z)
      · have := ha f0
        rw [if_neg (show ¬ (if f = 0 then (-1 : Int32) else nI a) = -1 by rw [if_neg f0]; exact pu_ne1 (by omega)), is_eq n hn hK.1 hK.2.1 r1 r2 (show 24 < 26 by omega), is_eq n hn hK.1 hK.2.1 r1 r2 (show 25 < 26 by omega)]
        dsimp only [Option.bind]
        by_cases t24 : SK b A (tkB b A k1) = nI 24
        · rw [decide_eq_true t24, if_pos rfl]
          exact fin (Or.inr ⟨f0, Or.inl t24⟩)
        · rw [decide_eq_false t24, if_neg Bool.false_ne_true]
          by_cases t25 : SK b A (tkB b A k1) = nI 25
          · rw [decide_eq_true t25, if_pos rfl]
            exact fin (Or.inr ⟨f0, Or.inr t25⟩)
          · rw [decide_eq_false t25, if_neg Bool.false_ne_true]
            exact go t28 (fun _ => ⟨t24, t25⟩)
theorem blk_step (hn : 2200 < n) (hK : KB b A K0) {f : Nat} (hf : f ≤ 4) (hE : f < 4 → SpecB n b A K0 (f + 1)) : SpecB n b A K0 f := by
  intro g S R k i z q N0 a hg h hi ha
  obtain ⟨g, rfl⟩ : ∃ g', g = g' + 1 := ⟨g - 1, by omega⟩
  have A7 := hK.1
  have K0A := hK.2.2.1
  obtain ⟨first, R', e1, e2⟩ := blk_loop (S := S) (R := R) hn hK (a := a) (g := g) (k := k) (i := i) (z := z) (q := q) (N0 := N0) hf hE (fun _ => by omega) hi ha n 0 S R k z q N0 0 (by omega) ⟨run_0, h, Nat.le_refl _, Nat.le_refl _, Nat.le_refl _, Nat.le_refl _, gC_r, gR_r, fun y => absurd y (Nat.lt_irrefl _), fun s p1 p2 => by omega⟩
  rw [if_pos rfl, if_pos rfl] at e1
  exact ⟨first, R', e1, e2⟩
theorem blk_all (hn : 2200 < n) (hK : KB b A K0) : ∀ (e f : Nat), f + e = 4 → SpecB n b A K0 f := by
  intro e
  induction e with
  | zero => exact fun f hf => blk_step hn hK (by omega) (fun z => by omega)
  | succ e ih => exact fun f hf => blk_step hn hK (by omega) (fun _ => ih (f + 1) (by omega))
end BLOCK
