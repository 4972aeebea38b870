/-! A MOVE THAT TAKES A WORD: both sides -/
theorem mv_take (n : Nat) (hn : 2200 < n) {τ : Nat → Int64} {S σ T : am_M} {N m h t M a src : Nat} {kd nx ot : Nat → Nat} {G : Nat → Nat → List Int32} (hb : rB n τ S σ N m kd nx ot G) (hq : rQ S σ N m kd G M) (hg : S 0 15 = 0) (hz : zr σ m) (hh : h < m) (ha : act S σ N m kd G h t) (hk : kd t = 3 ∨ kd t = 4) (hsrc : src < m) (haM : a < M) (hfi : fiW (am_sub S 2) (nI (8 * src + h)) (S 1 (13 * h + 11)) 0 M = nI a)
    (Tc : ∀ c, c ≠ 0 → c ≠ 16 → T c = σ c) (T0 : ∀ k, k < 40 ∨ 42 < k → T 0 k = σ 0 k) (Tany : (kd t = 4 → T 0 40 = nI h ∧ T 0 41 = nI src ∧ T 0 42 = nI t) ∧ (kd t ≠ 4 → T 0 40 = -1)) :
    ∃ S1 S' σ', X2_take n (S00 S) (nI h) (nI src) = some S1 ∧ X2_goOn n τ S1 = some S' ∧ X8_take n T (nI h) (nI src) (nI a) = some σ' ∧ mvd n τ S σ S' σ' N m kd nx ot G M (M - 1) := by
  have m8 := hb.2.2.2.1
  have hw := hq.2.1
  have hM3 := hw.1
  have S00c : ∀ c, c ≠ 0 → S00 S c = S c := fun c hc => sC_ne hc
  have hsub : am_sub (S00 S) 2 = am_sub S 2 := am_sub_eq (fun c hc => S00c c (by omega))
  obtain ⟨bw, to, lo, be, z1, z2, z3, z4, e1, e2, e3, e4, e5, e6, e7⟩ := hw.2.2.2 a haM
  obtain ⟨x, hx⟩ : ∃ x, x = S 6 a := ⟨_, rfl⟩
  obtain ⟨c8, hc8⟩ : ∃ c8, c8 = upd (upd (S 8) h (S 8 h + dl (S 8 h) x)) h (S 8 h + dl (S 8 h) x + 1) := ⟨_, rfl⟩
  obtain ⟨c9, hc9⟩ : ∃ c9, c9 = upd (S 9) h (S 9 h + dl (S 8 h) x) := ⟨_, rfl⟩
  obtain ⟨q3, hq3⟩ : ∃ q3, q3 = sC (sC (sC (S00 S) 8 (upd (S 8) h (S 8 h + dl (S 8 h) x))) 9 c9) 8 c8 := ⟨_, rfl⟩
  have q3c : ∀ c, c ≠ 0 → ¬ (8 ≤ c ∧ c ≤ 9) → q3 c = S c := fun c h1 h2 => by
    rw [hq3, sC_ne (by omega), sC_ne (by omega), sC_ne (by omega)]
    exact S00c c h1
  have q30 : q3 0 = S00 S 0 := by rw [hq3]
  have q38 : q3 8 = c8 := by rw [hq3]
  have q39 : q3 9 = c9 := by rw [hq3]
  have hbeg : X6_begunAt (am_sub q3 2) (nI a) = decide (be = 1) := rWd_begun (σw := am_sub q3 2) (show a < 320 by omega) (by
    show q3 3 a = _
    rw [q3c 3 (by omega) (by omega)]
    exact e5) z1 z2 z3 z4
  obtain ⟨q4, hq4⟩ : ∃ q4, q4 = if be = 1 then sC q3 10 (upd (S 10) src (J9_max_7cf53 (S 10 src) (c8 h))) else q3 := ⟨_, rfl⟩
  have c1 : X2_take n (S00 S) (nI h) (nI src) = X2_take_J77 n q4 (nI h) (nI src) (nI a) := by
    unfold X2_take
    rw [X2_g11 (by omega), show S00 S 1 (13 * h + 11) = S 1 (13 * h + 11) from rfl, hsub, (lying_first n (am_sub S 2) σ M hw src h (by omega) (by omega) _ (by omega)).2, hfi]
    dsimp only [Option.bind]
    rw [jat_nI (by omega) (by omega), show S00 S 6 a = x by rw [hx]; rfl, raise_eq (by omega)]
    dsimp only
    unfold X2_tick
    dsimp only
    rw [jat_nI (by omega) (by omega), jput_nI (by omega) (by omega)]
    have z : sC (sC (sC (S00 S) 8 (upd (S00 S 8) h (S00 S 8 h + dl (S00 S 8 h) x))) 9 (upd (S00 S 9) h (S00 S 9 h + dl (S00 S 8 h) x))) 8 (upd (upd (S00 S 8) h (S00 S 8 h + dl (S00 S 8 h) x)) h (upd (S00 S 8) h (S00 S 8 h + dl (S00 S 8 h) x) h + 1)) = q3 := by
      rw [hq3, hc8, hc9, upd_eq]
      rfl
    show (if X6_begunAt (am_sub (sC (sC (sC (S00 S) 8 (upd (S00 S 8) h (S00 S 8 h + dl (S00 S 8 h) x))) 9 (upd (S00 S 9) h (S00 S 9 h + dl (S00 S 8 h) x))) 8 (upd (upd (S00 S 8) h (S00 S 8 h + dl (S00 S 8 h) x)) h (upd (S00 S 8) h (S00 S 8 h + dl (S00 S 8 h) x) h + 1))) 2) (nI a) = true then _ else _) = _
    rw [z, hbeg, hq4]
    by_cases hbe : be = 1
    · rw [decide_eq_true hbe, if_pos rfl, if_pos hbe]
      rw [jat_nI (by omega) (by omega), jat_nI (by omega) (by omega), jput_nI (by omega) (by omega)]
      rw [q38, q3c 10 (by omega) (by omega)]
    · rw [decide_eq_false hbe, if_neg (by decide), if_neg hbe]
  -- the reference
  obtain ⟨y, hy⟩ : ∃ y, y = σ 20 a := ⟨_, rfl⟩
  obtain ⟨d8, hd8⟩ : ∃ d8, d8 = upd (upd (σ 17) h (σ 17 h + dl (σ 17 h) y)) h (σ 17 h + dl (σ 17 h) y + 1) := ⟨_, rfl⟩
  obtain ⟨d9, hd9⟩ : ∃ d9, d9 = upd (σ 18) h (σ 18 h + dl (σ 17 h) y) := ⟨_, rfl⟩
  obtain ⟨r3, hr3⟩ : ∃ r3, r3 = sC (sC (sC T 17 (upd (σ 17) h (σ 17 h + dl (σ 17 h) y))) 18 d9) 17 d8 := ⟨_, rfl⟩
  obtain ⟨r4, hr4⟩ : ∃ r4, r4 = if be = 1 then sC r3 19 (upd (σ 19) src (J9_max_7cf53 (σ 19 src) (d8 h))) else r3 := ⟨_, rfl⟩
  have r3c : ∀ c, ¬ (17 ≤ c ∧ c ≤ 18) → r3 c = T c := fun c h2 => by
    rw [hr3, sC_ne (by omega), sC_ne (by omega), sC_ne (by omega)]
  have r38 : r3 17 = d8 := by rw [hr3]
  have r39 : r3 18 = d9 := by rw [hr3]
  have t17 := Tc 17 (by omega) (by omega)
  have t18 := Tc 18 (by omega) (by omega)
  have t19 := Tc 19 (by omega) (by omega)
  have t20 := Tc 20 (by omega) (by omega)
  have t15 := Tc 15 (by omega) (by omega)
  have c2 : X8_take n T (nI h) (nI src) (nI a) = X8_take_J95 n r4 (nI h) (nI src) (nI a) (σ 15 (65 + 6 * a + 3)) (σ 15 (65 + 6 * a + 4)) := by
    have j46 : ∀ s0 : Int32, X8_take_J46 n T (nI h) (nI src) (nI a) (σ 15 (65 + 6 * a + 3)) (σ 15 (65 + 6 * a + 4)) s0 = X8_take_J95 n (if s0 = 0 then r3 else sC r3 19 (upd (σ 19) src (J9_max_7cf53 (σ 19 src) (d8 h)))) (nI h) (nI src) (nI a) (σ 15 (65 + 6 * a + 3)) (σ 15 (65 + 6 * a + 4)) := by
      intro s0
      unfold X8_take_J46
      rw [if_neg (pu_g (n := 321) (by omega) (by omega)), nI_clamp (by omega), t20, ← hy, upTo_eq (by omega), t17, t18]
      dsimp only [Option.bind]
      rw [if_neg (pu_g (n := 8) (by omega) (by omega)), if_neg (pu_g (n := 8) (by omega) (by omega))]
      have z : sC (sC (sC T 17 (upd (σ 17) h (σ 17 h + dl (σ 17 h) y))) 18 (upd (σ 18) h (σ 18 h + dl (σ 17 h) y))) 17 (upd (upd (σ 17) h (σ 17 h + dl (σ 17 h) y)) h (upd (σ 17) h (σ 17 h + dl (σ 17 h) y) h + 1)) = r3 := by
        rw [hr3, hd8, hd9, upd_eq]
      by_cases hs0 : s0 = 0
      · rw [if_pos hs0, if_pos hs0, nI_clamp (by omega)]
        show X8_take_J95 n (sC (sC (sC T 17 (upd (σ 17) h (σ 17 h + dl (σ 17 h) y))) 18 (upd (σ 18) h (σ 18 h + dl (σ 17 h) y))) 17 (upd (upd (σ 17) h (σ 17 h + dl (σ 17 h) y)) h (upd (σ 17) h (σ 17 h + dl (σ 17 h) y) h + 1))) (nI h) (nI src) (nI a) _ _ = _
        rw [z]
      · rw [if_neg hs0, if_neg hs0, if_neg (pu_g (n := 8) (by omega) (by omega)), if_neg (pu_g (n := 8) (by omega) (by omega)), if_neg (pu_g (n := 8) (by omega) (by omega)), nI_clamp (by omega), nI_clamp (by omega)]
        show X8_take_J95 n (sC (sC (sC (sC T 17 (upd (σ 17) h (σ 17 h + dl (σ 17 h) y))) 18 (upd (σ 18) h (σ 18 h + dl (σ 17 h) y))) 17 (upd (upd (σ 17) h (σ 17 h + dl (σ 17 h) y)) h (upd (σ 17) h (σ 17 h + dl (σ 17 h) y) h + 1))) 19 (upd (T 19) src (J9_max_7cf53 (T 19 src) (upd (upd (σ 17) h (σ 17 h + dl (σ 17 h) y)) h (upd (σ 17) h (σ 17 h + dl (σ 17 h) y) h + 1) h)))) (nI h) (nI src) (nI a) _ _ = _
        rw [z, t19, hd8, upd_eq, upd_eq, upd_eq]
    unfold X8_take
    rw [pu_w3, pu_w4, pu_w5, if_neg (pu_g (n := 1985) (by omega) (by omega)), if_neg (pu_g (n := 1985) (by omega) (by omega)), if_neg (pu_g (n := 1985) (by omega) (by omega)), nI_clamp (by omega), nI_clamp (by omega), nI_clamp (by omega), t15, e4]
    rcases (show be = 0 ∨ be = 1 by omega) with q | q
    · subst q
      rw [if_neg (show ¬ nI 0 = 1 by decide), j46, if_pos rfl, hr4, if_neg (by decide)]
    · subst q
      rw [if_pos (show nI 1 = 1 from rfl), j46, if_neg (by decide), hr4, if_pos rfl]
  obtain ⟨S1, S', σ', w1, w2, w3, w4⟩ := take_tail n hn (τ := τ) (q4 := q4) (r4 := r4) (src := src) hb hq hg hz hh ha hk hsrc haM (fun c h1 h2 => by
      rw [hq4]
      by_cases hbe : be = 1
      · rw [if_pos hbe, sC_ne (by omega)]; exact q3c c h1 (by omega)
      · rw [if_neg hbe]; exact q3c c h1 (by omega)) (fun k hk => by
      have : q4 0 = S00 S 0 := by
        rw [hq4]
        by_cases hbe : be = 1
        · rw [if_pos hbe, sC_ne (by omega)]; exact q30
        · rw [if_neg hbe]; exact q30
      rw [this]
      exact am_u_ne hk) (by
      have : q4 0 = S00 S 0 := by
        rw [hq4]
        by_cases hbe : be = 1
        · rw [if_pos hbe, sC_ne (by omega)]; exact q30
        · rw [if_neg hbe]; exact q30
      rw [this]
      rfl) (fun c h1 h2 => by
      rw [hr4]
      by_cases hbe : be = 1
      · rw [if_pos hbe, sC_ne (by omega), r3c c (by omega)]; exact Tc c h1 (by omega)
      · rw [if_neg hbe, r3c c (by omega)]; exact Tc c h1 (by omega)) (fun k hk => by
      have : r4 0 = T 0 := by
        rw [hr4]
        by_cases hbe : be = 1
        · rw [if_pos hbe, sC_ne (by omega), r3c 0 (by omega)]
        · rw [if_neg hbe, r3c 0 (by omega)]
      rw [this]
      exact T0 k hk) (by
      have : r4 0 = T 0 := by
        rw [hr4]
        by_cases hbe : be = 1
        · rw [if_pos hbe, sC_ne (by omega), r3c 0 (by omega)]
        · rw [if_neg hbe, r3c 0 (by omega)]
      rw [this]
      exact Tany) (fun B hB hc j hj => by
      obtain ⟨r1, r2, r3, r4', -⟩ := hc
      obtain ⟨xa, xa1, xa2, xa3⟩ := r4' a haM
      have h88 : ∀ i, i < 8 → ∃ u, u ≤ B + 1000 ∧ c8 i = nI u ∧ d8 i = nI u := fun i hi => by
        obtain ⟨u, u1, u2, u3⟩ := r1 i hi
        rw [hc8, hd8, hx, hy, xa2, xa3]
        by_cases e : i = h
        · subst e
          exact ⟨max u xa + 1, by omega, by rw [upd_eq, u2, dl_nI (by omega) (by omega), nI_1], by rw [upd_eq, u3, dl_nI (by omega) (by omega), nI_1]⟩
        · exact ⟨u, by omega, by rw [upd_ne e, upd_ne e, u2], by rw [upd_ne e, upd_ne e, u3]⟩
      have h99 : c9 j = d9 j := by
        obtain ⟨u, u1, u2, u3⟩ := r1 h (by omega)
        rw [hc9, hd9, u2, u3, hx, hy, xa2, xa3]
        by_cases e : j = h
        · subst e
          rw [upd_eq, upd_eq, r2 j hj]
        · rw [upd_ne e, upd_ne e]; exact r2 j hj
      obtain ⟨u, u1, u2, u3⟩ := r3 j hj
      rw [hq4, hr4]
      by_cases hbe : be = 1
      · rw [if_pos hbe, if_pos hbe, sC_ne (by omega), sC_ne (by omega), sC_ne (by omega), sC_ne (by omega), q38, q39, r38, r39]
        refine ⟨h88 j hj, h99, ?_⟩
        show ∃ a, a ≤ B + 1000 ∧ upd (S 10) src _ j = nI a ∧ upd (σ 19) src _ j = nI a
        by_cases e : j = src
        · subst e
          obtain ⟨w, w1, w2, w3⟩ := h88 h (by omega)
          exact ⟨max u w, by omega, by rw [upd_eq, u2, w2, max_nI (by omega) (by omega)], by rw [upd_eq, u3, w3, max_nI (by omega) (by omega)]⟩
        · exact ⟨u, by omega, by rw [upd_ne e]; exact u2, by rw [upd_ne e]; exact u3⟩
      · rw [if_neg hbe, if_neg hbe, q38, q39, r38, r39]
        refine ⟨h88 j hj, h99, u, by omega, ?_, ?_⟩
        · rw [q3c 10 (by omega) (by omega)]; exact u2
        · rw [r3c 19 (by omega), t19]; exact u3)
  exact ⟨S1, S', σ', c1.trans w1, w2, c2.trans w3, w4⟩
