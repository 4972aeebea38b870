/-! A STEP IS READ: its words, variables, bounds -/
section TOKS
variable {n : Nat} {b : Nat → Int32} {A K0 s z0 q0 k0 e : Nat} {S0 R0 S R S' R' R'' : am_M} {done : Nat → Bool} {mk : Nat → Nat} {bd : Bool} {us : Int32}
/-- a word or none, to both -/
theorem tok_w (hK : KB b A K0) {k : Nat} (r1 : tkR b A k R) : (R 0 13 = 1 ∧ ∃ j, j ≤ 26 ∧ SK b A (tkB b A k) = nI j) ∨ (¬ R 0 13 = 1 ∧ ∃ j, 27 ≤ j ∧ j < 356 ∧ SK b A (tkB b A k) = nI j) := by
  obtain ⟨tB, t16, tA, tl⟩ := r1
  by_cases q : tkB b A k < A
  · obtain ⟨t11, t17, k1, k2, k3⟩ := tl q
    rcases cl_3 (b := b) (tkB b A k) with c | c | c
    · have wl := wix_le (b := b) (p := tkB b A k) (e := enT b A (tkB b A k))
      refine Or.inl ⟨k1 c, wix b (tkB b A k) (enT b A (tkB b A k)), wl, ?_⟩
      unfold SK
      rw [if_pos q, if_pos c]
    · refine Or.inr ⟨by rw [(k2 c).1]; decide, 27, by omega, by omega, ?_⟩
      unfold SK
      rw [if_pos q, if_neg (by omega), if_pos c]
      rfl
    · obtain ⟨x14, x13⟩ := k3 c
      obtain ⟨v, v1, v2⟩ := hK.2.1 _ q
      refine Or.inr ⟨by rcases x13 with ⟨y, -⟩ | ⟨y, -⟩ <;> rw [y] <;> decide, 100 + v, by omega, by omega, ?_⟩
      unfold SK
      rw [if_pos q, if_neg (by omega), if_neg (by omega), v2]
      exact nI_add 100 v
  · have e : tkB b A k = A := by
      have := tkB_le (b := b) (A := A) k
      omega
    refine Or.inr ⟨by rw [(tA e).1]; decide, 28, by omega, by omega, ?_⟩
    unfold SK
    rw [if_neg q]
    rfl
/-- a number, to both -/
theorem tok_n (hK : KB b A K0) {k : Nat} (r1 : tkR b A k R) : (R 0 13 = 2 ∧ SK b A (tkB b A k) = 27 ∧ ((∃ x, x ≤ 9999 ∧ NMT b A (tkB b A k) = nI x ∧ R 0 15 = nI x ∧ ¬ 4 < R 0 17 - R 0 16) ∨ (NMT b A (tkB b A k) = -1 ∧ 4 < R 0 17 - R 0 16))) ∨ (¬ R 0 13 = 2 ∧ SK b A (tkB b A k) ≠ 27) := by
  have A7 := hK.1
  obtain ⟨tB, t16, tA, tl⟩ := r1
  by_cases q : tkB b A k < A
  · obtain ⟨t11, t17, k1, k2, k3⟩ := tl q
    have eb := enT_bd (b := b) q
    rcases cl_3 (b := b) (tkB b A k) with c | c | c
    · have w := wix_le (b := b) (p := tkB b A k) (e := enT b A (tkB b A k))
      refine Or.inr ⟨by rw [k1 c]; decide, ?_⟩
      unfold SK
      rw [if_pos q, if_pos c]
      exact fun z => by have := (nI_eq (b := 27) (by omega) (by omega)).mp z; omega
    · obtain ⟨k13, k15⟩ := k2 c
      have sk : SK b A (tkB b A k) = 27 := by
        unfold SK
        rw [if_pos q, if_neg (by omega), if_pos c]
      obtain ⟨u, hu⟩ : ∃ u, enT b A (tkB b A k) = tkB b A k + u := ⟨enT b A (tkB b A k) - tkB b A k, by omega⟩
      have e17 : R 0 17 - R 0 16 = nI u := by rw [t17, t16, hu, nI_asub]
      refine Or.inl ⟨k13, sk, ?_⟩
      by_cases u4 : u ≤ 4
      · have all2 : ∀ j, j < u → cl b (tkB b A k + j) = 2 := by
          have R2 : enT b A (tkB b A k) = rn b A 2 (tkB b A k + 1) := by
            unfold enT
            rw [if_neg (by omega), c]
          have M : ∀ (e p : Nat), p + e = A → ∀ x, p ≤ x → x < rn b A 2 p → cl b x = 2 := by
            intro e
            induction e with
            | zero =>
              intro p hp x h1 h2
              rw [show p = A by omega, rn_A] at h2
              omega
            | succ e ih =>
              intro p hp x h1 h2
              rw [rn_lt (by omega)] at h2
              by_cases z : cl b p = 2
              · rw [if_pos z] at h2
                by_cases y : x = p
                · rw [y]; exact z
                · exact ih (p + 1) (by omega) x (by omega) h2
              · rw [if_neg z] at h2
                omega
          intro j hj
          by_cases y : j = 0
          · rw [y]; exact c
          · exact M (A - (tkB b A k + 1)) (tkB b A k + 1) (by omega) (tkB b A k + j) (by omega) (by rw [← R2, hu]; omega)
        obtain ⟨x, x1, x2⟩ := nv_val (b := b) (s := tkB b A k) u all2 (by omega)
        have p10 : 10 ^ u ≤ 10 ^ 4 := Nat.pow_le_pow_right (by omega) u4
        have x9 : x ≤ 9999 := by omega
        refine Or.inl ⟨x, x9, ?_, ?_, ?_⟩
        · unfold NMT NM
          rw [if_pos q, if_pos c, show enT b A (tkB b A k) - tkB b A k = u by omega, if_pos u4, x2]
        · have := k15 (by omega)
          rw [show enT b A (tkB b A k) - tkB b A k = u by omega, x2] at this
          exact this
        · rw [e17]
          exact fun y => by have := (nI_ltN (a := 4) (by omega) (by omega)).mp y; omega
      · refine Or.inr ⟨?_, ?_⟩
        · unfold NMT NM
          rw [if_pos q, if_pos c, show enT b A (tkB b A k) - tkB b A k = u by omega, if_neg u4]
        · rw [e17]
          exact (nI_ltN (a := 4) (by omega) (by omega)).mpr (by omega)
    · obtain ⟨x14, x13⟩ := k3 c
      obtain ⟨v, v1, v2⟩ := hK.2.1 _ q
      refine Or.inr ⟨by rcases x13 with ⟨y, -⟩ | ⟨y, -⟩ <;> rw [y] <;> decide, ?_⟩
      unfold SK
      rw [if_pos q, if_neg (by omega), if_neg (by omega), v2, show (100 : Int32) + nI v = nI (100 + v) from nI_add 100 v]
      exact fun z => by have := (nI_eq (b := 27) (by omega) (by omega)).mp z; omega
  · have e : tkB b A k = A := by
      have := tkB_le (b := b) (A := A) k
      omega
    refine Or.inr ⟨by rw [(tA e).1]; decide, ?_⟩
    unfold SK
    rw [if_neg q]
    decide
theorem at2_end (hK : KB b A K0) {k z q : Nat} (h : at2 b A K0 k z q S R) (hs : SK b A (tkB b A k) ≠ 28) : k < K0 := not_end hK h.1 hs
/-- both go on by a token -/
theorem at2_adv (hn : 2200 < n) (hK : KB b A K0) {k z q : Nat} (h : at2 b A K0 k z q S R) (hk : k < K0) : X5_advance (am_sub S 1) = some (sC (am_sub S 1) 0 (am_u (S 1) 6 (nI (k + 1)))) ∧ ∃ g, X8_stepOn n R = some (sC R 0 g) ∧ (∀ k, k < 11 ∨ k = 12 ∨ 18 ≤ k → g k = R 0 k) ∧ at2 b A K0 (k + 1) z q (sC S 1 (am_u (S 1) 6 (nI (k + 1)))) (sC R 0 g) := by
  obtain ⟨a1, a2, a3, a4, a5, a6, a7⟩ := h
  obtain ⟨g, g1, g2, g3⟩ := stepOn_k n hn hK.1 hK.2.1 a4 (hK.2.2.2.2 k hk)
  exact ⟨adv_C hK a1 hk, g, g1, g2, tkC_adv a1 hk, a2, a3, g3, (g2 18 (by omega)).trans a5, (g2 21 (by omega)).trans a6, a7⟩
theorem cC_adv {z0 : Nat} {v : Nat → Int32} (x : cC s z0 S0 S) (hv : ∀ j, j ≠ 6 → v j = S 1 j) : cC s z0 S0 (sC S 1 v) := ⟨fun c h1 h2 h3 h4 h5 h6 h7 h8 => (sC_ne h2).trans (x.1 c h1 h2 h3 h4 h5 h6 h7 h8), x.2⟩
theorem cR_adv {q0 : Nat} {g : Nat → Int32} (x : cR s q0 R0 R) (hg : ∀ j, j < 11 ∨ j = 12 ∨ j = 20 ∨ 22 ≤ j → g j = R 0 j) : cR s q0 R0 (sC R 0 g) := ⟨fun c h1 h2 h3 h4 h5 h6 => (sC_ne h1).trans (x.1 c h1 h2 h3 h4 h5 h6), fun j h => (hg j h).trans (x.2.1 j h), x.2.2⟩
theorem fR0_g {g : Nat → Int32} (hg : ∀ j, j < 11 ∨ j = 12 ∨ j = 20 ∨ 22 ≤ j → g j = R 0 j) : fR0 R (sC R 0 g) := ⟨fun c h1 h2 => sC_ne h1, hg, rfl, fun c h j hj => by rw [sC_ne (by omega)], fun _ _ => ⟨rfl, rfl⟩, fun _ _ => rfl⟩
/-- the same FAULT, at the same place -/
theorem bN_of (hK : KB b A K0) {k z q : Nat} (h : at2 b A K0 k z q S R) {a : Int32} (ha : a ≠ 0) : X1_refuse S a = some (sC S 0 (am_u (am_u (S 0) 2 a) 3 (nI (tkB b A k)))) ∧ X8_wrong R a = some (sC R 0 (am_u (am_u (R 0) 18 a) 19 (nI (tkB b A k)))) ∧ bN (sC S 0 (am_u (am_u (S 0) 2 a) 3 (nI (tkB b A k)))) (sC R 0 (am_u (am_u (R 0) 18 a) 19 (nI (tkB b A k)))) ∧ fR0 R (sC R 0 (am_u (am_u (R 0) 18 a) 19 (nI (tkB b A k)))) ∧ ¬ (sC R 0 (am_u (am_u (R 0) 18 a) 19 (nI (tkB b A k)))) 0 18 = 0 := ⟨refuse_C hK h.1 h.2.1 a, wrong_R h.2.2.2.1 h.2.2.2.2.1 a, ⟨ha, rfl, rfl⟩, fR0_g (fun j hj => by rw [am_u_ne (by omega), am_u_ne (by omega)]), ha⟩
theorem PS_adv (hn : 2200 < n) (hK : KB b A K0) (hm : ∀ w, w < 3 → mk w < 3) {k z q : Nat} (h : at2 b A K0 k z q S R) (hk : k < K0) (h1 : z + e ≤ k) (h2 : 2 * q + 3 * e ≤ 3 * k) (h3 : k0 ≤ k) (h4 : z0 ≤ z) (h5 : q0 ≤ q) (h6 : cC s z0 S0 S) (h7 : cR s q0 R0 R) (h8 : FF s done mk bd us S R z q) : ∃ g, X5_advance (am_sub S 1) = some (sC (am_sub S 1) 0 (am_u (S 1) 6 (nI (k + 1)))) ∧ X8_stepOn n R = some (sC R 0 g) ∧ PS b A K0 s z0 q0 k0 (e + 1) S0 R0 done mk bd us (sC S 1 (am_u (S 1) 6 (nI (k + 1)))) (sC R 0 g) := by
  obtain ⟨a1, g, g1, g2, g3⟩ := at2_adv hn hK h hk
  exact ⟨g, a1, g1, k + 1, z, q, g3, by omega, by omega, by omega, h4, h5, cC_adv h6 (fun j hj => am_u_ne hj), cR_adv h7 (fun j hj => g2 j (by omega)), FF_st h8 (fun w hw _ => hm w hw) rfl rfl (fun _ _ => rfl) (fun _ _ => rfl) rfl rfl (fun _ _ => ⟨rfl, rfl⟩) (fun _ _ => rfl) (Nat.le_refl _) (Nat.le_refl _)⟩
/-- a word or a sign that must stand -/
theorem word_op (hn : 2200 < n) (hK : KB b A K0) (hm : ∀ w, w < 3 → mk w < 3) {i : Nat} (hi : i < 26) (h : PE b A K0 s z0 q0 k0 e S0 R0 done mk bd us S R) : ∃ S' R', X1_need S (nI i) = some S' ∧ X8_word n R (i + 1) = some R' ∧ PE b A K0 s z0 q0 k0 (e + 1) S0 R0 done mk bd us S' R' := by
  rcases h with ⟨k, z, q, a, b1, b2, b3, b4, b5, c1, c2, c3⟩ | ⟨hb, hf0⟩
  · unfold X1_need X8_word X8_word_J20
    rw [sort_C hK a.1, if_pos a.2.2.2.2.1, is_eq n hn hK.1 hK.2.1 a.2.2.2.1 a.2.2.2.2.1 hi]
    dsimp only [Option.bind]
    by_cases t : SK b A (tkB b A k) = nI i
    · obtain ⟨g, d1, d2, d3⟩ := PS_adv hn hK hm a (at2_end hK a (by rw [t]; exact fun z => by have := (nI_eq (b := 28) (by omega) (by omega)).mp z; omega)) b1 b2 b3 b4 b5 c1 c2 c3
      rw [if_pos t, decide_eq_true t, if_pos rfl, if_pos a.2.2.2.2.1, d1, d2]
      dsimp only
      rw [put_1]
      exact ⟨_, _, rfl, rfl, Or.inl d3⟩
    · obtain ⟨f1, f2, f3, f4, f5⟩ := bN_of hK a (a := 1) (by decide)
      rw [if_neg t, decide_eq_false t, if_neg Bool.false_ne_true, f1, f2]
      dsimp only
      rw [if_neg f5]
      exact ⟨_, _, rfl, rfl, Or.inr ⟨f3, fR0_t (cR_0 c2) f4⟩⟩
  · obtain ⟨S', e1, e2⟩ := need1_f hb.1 (nI i)
    exact ⟨S', R, e1, word_f n (by rw [hb.2.1]; exact hb.1) _, Or.inr ⟨⟨kp_n e2 hb.1, hb.2.1.trans e2.1.symm, hb.2.2.trans e2.2.symm⟩, hf0⟩⟩
theorem sign_op (hn : 2200 < n) (hK : KB b A K0) (hm : ∀ w, w < 3 → mk w < 3) (h : PE b A K0 s z0 q0 k0 e S0 R0 done mk bd us S R) : ∃ S' R', X1_need S 159 = some S' ∧ X8_need n R 59 = some R' ∧ PE b A K0 s z0 q0 k0 (e + 1) S0 R0 done mk bd us S' R' := by
  rcases h with ⟨k, z, q, a, b1, b2, b3, b4, b5, c1, c2, c3⟩ | ⟨hb, hf0⟩
  · have sg : X8_isSign R 59 = _ := isSign_eq hK.1 hK.2.1 (c := 59) a.2.2.2.1 a.2.2.2.2.1 (by omega) (by unfold lst; decide)
    unfold X1_need X8_need X8_need_J20
    rw [sort_C hK a.1, if_pos a.2.2.2.2.1, sg]
    by_cases t : SK b A (tkB b A k) = nI (100 + 59)
    · obtain ⟨g, d1, d2, d3⟩ := PS_adv hn hK hm a (at2_end hK a (by rw [t]; decide)) b1 b2 b3 b4 b5 c1 c2 c3
      rw [if_pos (show SK b A (tkB b A k) = 159 from t), decide_eq_true t, if_pos rfl, if_pos a.2.2.2.2.1, d1, d2]
      dsimp only [Option.bind]
      rw [put_1]
      exact ⟨_, _, rfl, rfl, Or.inl d3⟩
    · obtain ⟨f1, f2, f3, f4, f5⟩ := bN_of hK a (a := 1) (by decide)
      rw [if_neg (show ¬ SK b A (tkB b A k) = 159 from t), decide_eq_false t, if_neg Bool.false_ne_true, f1, f2]
      dsimp only [Option.bind]
      rw [if_neg f5]
      exact ⟨_, _, rfl, rfl, Or.inr ⟨f3, fR0_t (cR_0 c2) f4⟩⟩
  · obtain ⟨S', e1, e2⟩ := need1_f hb.1 159
    exact ⟨S', R, e1, need_f n (by rw [hb.2.1]; exact hb.1) _, Or.inr ⟨⟨kp_n e2 hb.1, hb.2.1.trans e2.1.symm, hb.2.2.trans e2.2.symm⟩, hf0⟩⟩
theorem cC_10 {z0 : Nat} {v : Int32} (x : cC s z0 S0 S) : cC s z0 S0 (sC S 10 (upd (S 10) s v)) := ⟨fun c h1 h2 h3 h4 h5 h6 h7 h8 => (sC_ne h4).trans (x.1 c h1 h2 h3 h4 h5 h6 h7 h8), x.2.1, x.2.2.1, fun j h => ⟨(upd_ne h).trans (x.2.2.2.1 j h).1, (x.2.2.2.1 j h).2⟩, x.2.2.2.2⟩
theorem cC_11 {z0 : Nat} {v : Int32} (x : cC s z0 S0 S) : cC s z0 S0 (sC S 11 (upd (S 11) s v)) := ⟨fun c h1 h2 h3 h4 h5 h6 h7 h8 => (sC_ne h5).trans (x.1 c h1 h2 h3 h4 h5 h6 h7 h8), x.2.1, x.2.2.1, fun j h => ⟨(x.2.2.2.1 j h).1, (upd_ne h).trans (x.2.2.2.1 j h).2⟩, x.2.2.2.2⟩
theorem cR_9 {q0 : Nat} {v : Int32} (x : cR s q0 R0 R) : cR s q0 R0 (sC R 9 (upd (R 9) (40 + s) v)) := ⟨fun c h1 h2 h3 h4 h5 h6 => (sC_ne h5).trans (x.1 c h1 h2 h3 h4 h5 h6), x.2.1, x.2.2.1, fun j h => ⟨(upd_ne h).trans (x.2.2.2.1 j h).1, (x.2.2.2.1 j h).2⟩, x.2.2.2.2⟩
theorem cR_10 {q0 : Nat} {v : Int32} (x : cR s q0 R0 R) : cR s q0 R0 (sC R 10 (upd (R 10) (40 + s) v)) := ⟨fun c h1 h2 h3 h4 h5 h6 => (sC_ne h6).trans (x.1 c h1 h2 h3 h4 h5 h6), x.2.1, x.2.2.1, fun j h => ⟨(x.2.2.2.1 j h).1, (upd_ne h).trans (x.2.2.2.1 j h).2⟩, x.2.2.2.2⟩
theorem fR0_9 {v : Int32} : fR0 R (sC R 9 (upd (R 9) (40 + s) v)) := ⟨fun c h1 h2 => sC_ne (by omega), fun _ _ => rfl, rfl, fun c h j hj => by
  by_cases c9 : c = 9
  · rw [c9]
    exact upd_ne (by omega)
  · rw [sC_ne c9], fun _ _ => ⟨rfl, rfl⟩, fun _ _ => rfl⟩
theorem fR0_10 {v : Int32} : fR0 R (sC R 10 (upd (R 10) (40 + s) v)) := ⟨fun c h1 h2 => sC_ne (by omega), fun _ _ => rfl, rfl, fun c h j hj => by
  by_cases c9 : c = 10
  · rw [c9]
    exact upd_ne (by omega)
  · rw [sC_ne c9], fun _ _ => ⟨rfl, rfl⟩, fun _ _ => rfl⟩
theorem FF_var {v z q : Nat} (x : FF s done mk bd us S R z q) (hv : v < 4) (h10 : S' 10 s = nI v) (r9 : R' 9 (40 + s) = nI v) (h11 : S' 11 = S 11) (h12 : S' 12 = S 12) (h13 : S' 13 = S 13) (r10 : R' 10 = R 10) (r7 : R' 7 = R 7) (r8 : R' 8 = R 8) (r5 : R' 5 = R 5) : FF s done mk bd us S' R' z q := by
  obtain ⟨x1, x2, x3⟩ := x
  refine ⟨fun w hw => ?_, ⟨v, hv, h10, r9⟩, ?_⟩
  · unfold rA
    rw [h12, h13, r7, r8, r5]
    exact x1 w hw
  · rw [h11, r10]
    exact x3
theorem FF_bd {v z q : Nat} {bd' : Bool} (x : FF s done mk bd us S R z q) (hv : 1 ≤ v) (hv2 : v ≤ 99) (h11 : S' 11 s = nI v) (r10 : R' 10 (40 + s) = nI v) (h10 : S' 10 = S 10) (h12 : S' 12 = S 12) (h13 : S' 13 = S 13) (r9 : R' 9 = R 9) (r7 : R' 7 = R 7) (r8 : R' 8 = R 8) (r5 : R' 5 = R 5) : FF s done mk true us S' R' z q := by
  obtain ⟨x1, x2, x3⟩ := x
  refine ⟨fun w hw => ?_, ?_, ?_⟩
  · unfold rA
    rw [h12, h13, r7, r8, r5]
    exact x1 w hw
  · rw [h10, r9]
    exact x2
  · rw [if_pos rfl]
    exact ⟨v, hv, hv2, h11, r10⟩
/-- a VAR -/
theorem var_op (hn : 2200 < n) (hK : KB b A K0) (hs : s < 40) (h : PE b A K0 s z0 q0 k0 e S0 R0 done mk bd us S R) : ∃ S' x R1, X1_variable S (nI s) = some S' ∧ X8_readVar n R = some (x, R1) ∧ PE b A K0 s z0 q0 k0 (e + 1) S0 R0 done mk bd us S' (sC R1 9 (upd (R1 9) (40 + s) x)) := by
  rcases h with ⟨k, z, q, a, b1, b2, b3, b4, b5, c1, c2, c3⟩ | ⟨hb, hf0⟩
  · have r1 := a.2.2.2.1
    have r2 := a.2.2.2.2.1
    have bad : ∀ aa : Int32, aa ≠ 0 → ∀ x : Int32, PE b A K0 s z0 q0 k0 (e + 1) S0 R0 done mk bd us (sC S 0 (am_u (am_u (S 0) 2 aa) 3 (nI (tkB b A k)))) (sC (sC R 0 (am_u (am_u (R 0) 18 aa) 19 (nI (tkB b A k)))) 9 (upd ((sC R 0 (am_u (am_u (R 0) 18 aa) 19 (nI (tkB b A k)))) 9) (40 + s) x)) := fun aa ha x => Or.inr ⟨⟨ha, rfl, rfl⟩, fR0_t (cR_0 c2) (fR0_t (bN_of hK a ha).2.2.2.1 fR0_9)⟩
    obtain ⟨f1, f2, f3, f4, f5⟩ := bN_of hK a (a := 3) (by decide)
    obtain ⟨g1, g2, g3, g4, g5⟩ := bN_of hK a (a := 1) (by decide)
    unfold X1_variable X1_variable_J45 X1_variable_J57 X8_readVar X8_readVar_J29 X8_readVar_J60
    rw [sort_C hK a.1, if_pos r2]
    rcases tok_w hK r1 with ⟨w1, j, j1, j2⟩ | ⟨w1, j, j0, j1, j2⟩
    · simp only [if_pos w1]
      rw [if_neg (show ¬ (26 : Int32) < SK b A (tkB b A k) from fun z => by rw [j2] at z; have := (nI_ltN (a := 26) (by omega) (by omega)).mp z; omega)]
      have no3 : ∀ s0 : Int32, X8_isIn s0 0 3 = false → (¬ 11 ≤ j ∨ 14 < j) → ∃ S' x R1, (if SK b A (tkB b A k) < 11 then (X1_refuse S 3).bind (fun q1 => some q1) else if 14 < SK b A (tkB b A k) then (X1_refuse S 3).bind (fun q1 => some q1) else (X5_advance (am_sub (sC S 10 (jput 40 (S 10) (nI s) (SK b A (tkB b A k) - 11))) 1)).bind (fun q3 => some (am_put (sC S 10 (jput 40 (S 10) (nI s) (SK b A (tkB b A k) - 11))) 1 5 q3))) = some S' ∧ (some s0).bind (fun q3 => if X8_isIn q3 0 3 = true then (if R 0 18 = 0 then (X8_stepOn n R).bind (fun q2 => some (q3, q2)) else some (q3, R)) else (X8_wrong R 3).bind (fun q4 => if q4 0 18 = 0 then (X8_stepOn n q4).bind (fun q2 => some (q3, q2)) else some (q3, q4))) = some (x, R1) ∧ PE b A K0 s z0 q0 k0 (e + 1) S0 R0 done mk bd us S' (sC R1 9 (upd (R1 9) (40 + s) x)) := fun s0 hi hj => by
        dsimp only [Option.bind]
        rw [hi, if_neg Bool.false_ne_true, f2]
        dsimp only
        rw [if_neg f5]
        refine ⟨_, s0, _, ?_, rfl, bad 3 (by decide) s0⟩
        by_cases q : SK b A (tkB b A k) < 11
        · rw [if_pos q, f1]
        · rw [if_neg q, if_pos, f1]
          rw [j2] at q ⊢
          refine (nI_ltN (a := 14) (by omega) (by omega)).mpr ?_
          rcases hj with z | z
          · exact absurd ((nI_ltN (b := 11) (by omega) (by omega)).mpr (by omega)) q
          · exact z
      rcases whichV_eq n hn hK.1 hK.2.1 r1 r2 with ⟨v, v1, v2, v3⟩ | ⟨v2, v3⟩
      · have jv : j = 11 + v := (nI_eq (by omega) (by omega)).mp (j2.symm.trans v2)
        by_cases v4 : v < 4
        · have ii : X8_isIn (nI v) 0 3 = true := by
            unfold X8_isIn
            rw [if_neg (nI_n0 (by omega)), if_neg (fun z => by have := (nI_ltN (a := 3) (by omega) (by omega)).mp z; omega)]
          rw [v3]
          dsimp only [Option.bind]
          have a' : at2 b A K0 k z q (sC S 10 (upd (S 10) s (nI v))) R := a
          obtain ⟨d1, g, d2, d3, d4⟩ := at2_adv hn hK a' (at2_end hK a (by rw [v2]; exact fun z => by have := (nI_eq (b := 28) (by omega) (by omega)).mp z; omega))
          rw [if_neg (show ¬ SK b A (tkB b A k) < 11 from fun z => by rw [v2] at z; have := (nI_ltN (b := 11) (by omega) (by omega)).mp z; omega), if_neg (show ¬ (14 : Int32) < SK b A (tkB b A k) from fun z => by rw [v2] at z; have := (nI_ltN (a := 14) (by omega) (by omega)).mp z; omega), ii, if_pos rfl, v2, show nI (11 + v) - 11 = nI v from nI_asub 11 v, jput_nI hs (by omega), d1, if_pos r2, d2]
          dsimp only
          rw [put_1]
          refine ⟨_, _, _, rfl, rfl, Or.inl ⟨k + 1, z, q, d4, by omega, by omega, by omega, b4, b5, cC_adv (cC_10 c1) (fun j hj => am_u_ne hj), cR_9 (cR_adv c2 (fun j hj => d3 j (by omega))), FF_var (v := v) c3 v4 upd_eq upd_eq rfl rfl rfl rfl rfl rfl rfl⟩⟩
        · rw [v3]
          exact no3 (nI v) (by
            unfold X8_isIn
            rw [if_neg (nI_n0 (by omega)), if_pos (show (3 : Int32) < nI v from (nI_ltN (a := 3) (by omega) (by omega)).mpr (by omega))]) (by omega)
      · rw [v3]
        exact no3 (-1) (by decide) (by
          rcases Nat.lt_or_ge j 11 with y | y
          · omega
          · rcases Nat.lt_or_ge 14 j with y2 | y2
            · omega
            · exact absurd (by rw [j2, show 11 + (j - 11) = j by omega]) (v2 (j - 11) (by omega)))
    · rw [if_neg w1, if_neg w1, g2]
      dsimp only [Option.bind]
      rw [if_neg g5, if_neg (show ¬ SK b A (tkB b A k) < 11 from fun z => by rw [j2] at z; have := (nI_ltN (b := 11) (by omega) (by omega)).mp z; omega), if_pos (show (14 : Int32) < SK b A (tkB b A k) by rw [j2]; exact (nI_ltN (a := 14) (by omega) (by omega)).mpr (by omega)), if_pos (show (26 : Int32) < SK b A (tkB b A k) by rw [j2]; exact (nI_ltN (a := 26) (by omega) (by omega)).mpr (by omega)), g1]
      exact ⟨_, _, _, rfl, rfl, bad 1 (by decide) _⟩
  · obtain ⟨S', e1, e2⟩ := var_f (S := S) hb.1 (nI s)
    exact ⟨S', 0, R, e1, readVar_f n (by rw [hb.2.1]; exact hb.1), Or.inr ⟨⟨kp_n e2 hb.1, hb.2.1.trans e2.1.symm, hb.2.2.trans e2.2.symm⟩, fR0_t hf0 fR0_9⟩⟩
/-- how long, how long at most -/
theorem bound_op (hn : 2200 < n) (hK : KB b A K0) (hs : s < 40) {i ub : Nat} (hi : i < 26) (hu1 : 1 ≤ ub) (hu2 : ub ≤ 99) (h : PE b A K0 s z0 q0 k0 e S0 R0 done mk false (nI ub) S R) : ∃ S', X1_bound S (nI s) (nI i) (nI ub) = some S' ∧ ((X8_is n R (i + 1) = some false ∧ PE b A K0 s z0 q0 k0 e S0 R0 done mk true (nI ub) S' R) ∨ (X8_is n R (i + 1) = some true ∧ ∃ R1 x R2, X8_stepOn n R = some R1 ∧ X8_readNumber n R1 1 99 = some (x, R2) ∧ PE b A K0 s z0 q0 k0 e S0 R0 done mk true (nI ub) S' (sC R2 10 (upd (R2 10) (40 + s) x)))) := by
  rcases h with ⟨k, z, q, a, b1, b2, b3, b4, b5, c1, c2, c3⟩ | ⟨hb, hf0⟩
  · have a' : at2 b A K0 k z q (sC S 11 (upd (S 11) s (nI ub))) R := a
    have r10 : R 10 (40 + s) = nI ub := c3.2.2
    unfold X1_bound X1_bound_J80
    rw [if_pos a.2.1, jput_nI hs (by omega), sort_C hK a'.1, is_eq n hn hK.1 hK.2.1 a.2.2.2.1 a.2.2.2.2.1 hi]
    by_cases t : SK b A (tkB b A k) = nI i
    · obtain ⟨d1, g, d2, d3, d4⟩ := at2_adv hn hK a' (at2_end hK a (by rw [t]; exact fun z => by have := (nI_eq (b := 28) (by omega) (by omega)).mp z; omega))
      rw [if_pos t, decide_eq_true t, d1]
      dsimp only [Option.bind]
      rw [put_1]
      obtain ⟨S2, hS2⟩ : ∃ S2, S2 = sC (sC S 11 (upd (S 11) s (nI ub))) 1 (am_u ((sC S 11 (upd (S 11) s (nI ub))) 1) 6 (nI (k + 1))) := ⟨_, rfl⟩
      have cc2 : cC s z0 S0 S2 := by rw [hS2]; exact cC_adv (cC_11 c1) (fun j hj => am_u_ne hj)
      rw [← hS2] at d4 ⊢
      have cr2 : cR s q0 R0 (sC R 0 g) := cR_adv c2 (fun j hj => d3 j (by omega))
      have r2 := d4.2.2.2.2.1
      rw [sort_C hK d4.1, num_C hK d4.1]
      have bad : ∀ (aa : Int32), aa ≠ 0 → ∀ x : Int32, PE b A K0 s z0 q0 k0 e S0 R0 done mk true (nI ub) (sC S2 0 (am_u (am_u (S2 0) 2 aa) 3 (nI (tkB b A (k + 1))))) (sC (sC (sC R 0 g) 0 (am_u (am_u ((sC R 0 g) 0) 18 aa) 19 (nI (tkB b A (k + 1))))) 10 (upd ((sC (sC R 0 g) 0 (am_u (am_u ((sC R 0 g) 0) 18 aa) 19 (nI (tkB b A (k + 1))))) 10) (40 + s) x)) := fun aa ha x => Or.inr ⟨⟨ha, rfl, rfl⟩, fR0_t (cR_0 cr2) (fR0_t (bN_of hK d4 ha).2.2.2.1 fR0_10)⟩
      have fail : ∀ (aa : Int32), aa ≠ 0 → X8_readNumber n (sC R 0 g) 1 99 = (X8_wrong (sC R 0 g) aa).bind (fun q1 => X8_readNumber_J59 n q1) → ∃ S', (X1_refuse S2 aa).bind (fun q1 => some q1) = some S' ∧ ∃ R1 x R2, X8_stepOn n R = some R1 ∧ X8_readNumber n R1 1 99 = some (x, R2) ∧ PE b A K0 s z0 q0 k0 e S0 R0 done mk true (nI ub) S' (sC R2 10 (upd (R2 10) (40 + s) x)) := fun aa ha hr => by
        obtain ⟨f1, f2, f3, f4, f5⟩ := bN_of hK d4 ha
        refine ⟨sC S2 0 (am_u (am_u (S2 0) 2 aa) 3 (nI (tkB b A (k + 1)))), by rw [f1]; rfl, sC R 0 g, (sC (sC R 0 g) 0 (am_u (am_u ((sC R 0 g) 0) 18 aa) 19 (nI (tkB b A (k + 1))))) 0 15, sC (sC R 0 g) 0 (am_u (am_u ((sC R 0 g) 0) 18 aa) 19 (nI (tkB b A (k + 1)))), d2, ?_, bad aa ha _⟩
        rw [hr, f2]
        dsimp only [Option.bind]
        unfold X8_readNumber_J59
        rw [if_neg f5]
      have done2 : ∀ {aa : Int32}, (∃ S', (X1_refuse S2 aa).bind (fun q1 => some q1) = some S' ∧ ∃ R1 x R2, X8_stepOn n R = some R1 ∧ X8_readNumber n R1 1 99 = some (x, R2) ∧ PE b A K0 s z0 q0 k0 e S0 R0 done mk true (nI ub) S' (sC R2 10 (upd (R2 10) (40 + s) x))) → ∃ S', (X1_refuse S2 aa).bind (fun q1 => some q1) = some S' ∧ ((some true = some false ∧ PE b A K0 s z0 q0 k0 e S0 R0 done mk true (nI ub) S' R) ∨ (some true = some true ∧ ∃ R1 x R2, X8_stepOn n R = some R1 ∧ X8_readNumber n R1 1 99 = some (x, R2) ∧ PE b A K0 s z0 q0 k0 e S0 R0 done mk true (nI ub) S' (sC R2 10 (upd (R2 10) (40 + s) x)))) := fun ⟨S', p1, p2⟩ => ⟨S', p1, Or.inr ⟨rfl, p2⟩⟩
      rcases tok_n hK d4.2.2.2.1 with ⟨n1, n2, ⟨x, x1, x2, x3, x4⟩ | ⟨x2, x4⟩⟩ | ⟨n1, n2⟩
      · rw [if_pos n2, x2]
        by_cases lo : x < 1
        · rw [if_pos (show nI x < 1 from (nI_ltN (b := 1) (by omega) (by omega)).mpr lo)]
          refine done2 (fail 2 (by decide) ?_)
          unfold X8_readNumber X8_readNumber_J54
          rw [if_pos r2, if_pos n1, if_neg x4, x3, if_pos (show nI x < 1 from (nI_ltN (b := 1) (by omega) (by omega)).mpr lo)]
        · rw [if_neg (show ¬ nI x < 1 from fun y => lo ((nI_ltN (b := 1) (by omega) (by omega)).mp y))]
          by_cases hi2 : x ≤ 99
          · have d4' : at2 b A K0 (k + 1) z q (sC S2 11 (upd (S2 11) s (nI x))) (sC R 0 g) := d4
            obtain ⟨h1, g', h2, h3, h4⟩ := at2_adv hn hK d4' (at2_end hK d4 (by rw [n2]; decide))
            rw [if_pos (show nI x ≤ 99 from (nI_leI (b := 99) (by omega) (by omega)).mpr hi2), jput_nI hs (by omega), h1]
            dsimp only
            rw [put_1]
            refine ⟨_, rfl, Or.inr ⟨rfl, sC R 0 g, nI x, sC (sC R 0 g) 0 g', d2, ?_, Or.inl ⟨k + 1 + 1, z, q, h4, by omega, by omega, by omega, b4, b5, cC_adv (cC_11 cc2) (fun j hj => am_u_ne hj), cR_10 (cR_adv cr2 (fun j hj => h3 j (by omega))), FF_bd (v := x) (bd' := true) c3 (by omega) hi2 upd_eq upd_eq (by rw [hS2]) (by rw [hS2]) (by rw [hS2]) rfl rfl rfl rfl⟩⟩⟩
            unfold X8_readNumber X8_readNumber_J59
            rw [if_pos r2, if_pos n1, if_neg x4, x3, if_neg (show ¬ nI x < 1 from fun y => lo ((nI_ltN (b := 1) (by omega) (by omega)).mp y)), if_pos (show nI x ≤ 99 from (nI_leI (b := 99) (by omega) (by omega)).mpr hi2), if_pos r2, h2]
            rfl
          · rw [if_neg (show ¬ nI x ≤ 99 from fun y => hi2 ((nI_leI (b := 99) (by omega) (by omega)).mp y))]
            refine done2 (fail 2 (by decide) ?_)
            unfold X8_readNumber X8_readNumber_J54
            rw [if_pos r2, if_pos n1, if_neg x4, x3, if_neg (show ¬ nI x < 1 from fun y => lo ((nI_ltN (b := 1) (by omega) (by omega)).mp y)), if_neg (show ¬ nI x ≤ 99 from fun y => hi2 ((nI_leI (b := 99) (by omega) (by omega)).mp y))]
      · rw [if_pos n2, x2, if_pos (show (-1 : Int32) < 1 by decide)]
        refine done2 (fail 2 (by decide) ?_)
        unfold X8_readNumber X8_readNumber_J54
        rw [if_pos r2, if_pos n1, if_pos x4]
      · rw [if_neg n2]
        refine done2 (fail 1 (by decide) ?_)
        unfold X8_readNumber
        rw [if_pos r2, if_neg n1]
    · rw [if_neg t, decide_eq_false t]
      exact ⟨_, rfl, Or.inl ⟨rfl, Or.inl ⟨k, z, q, a, b1, b2, b3, b4, b5, cC_11 c1, c2, FF_bd (v := ub) (bd' := true) c3 hu1 hu2 upd_eq r10 rfl rfl rfl rfl rfl rfl rfl⟩⟩⟩
  · obtain ⟨S', e1, e2⟩ := bound_f (S := S) hb.1 (nI s) (nI i) (nI ub)
    exact ⟨S', e1, Or.inl ⟨is_no n hn (Or.inl (by rw [hb.2.1]; exact hb.1)), Or.inr ⟨⟨kp_n e2 hb.1, hb.2.1.trans e2.1.symm, hb.2.2.trans e2.2.symm⟩, hf0⟩⟩⟩
end TOKS
