/-! A MOVE AT 'done' -/
theorem mv_done (n : Nat) (hn : 2200 < n) {τ : Nat → Int64} {S σ : am_M} {N m h t M : Nat} {kd nx ot : Nat → Nat} {G : Nat → Nat → List Int32} (hb : rB n τ S σ N m kd nx ot G) (hq : rQ S σ N m kd G M) (hg : S 0 15 = 0) (hz : zr σ m) (hh : h < m) (ha : act S σ N m kd G h t) :
    ∃ S1 S' σ', (X2_raise (S00 S) (nI h) (jat 8 (S 10) (nI h))).bind (fun q15 => (X2_tick q15 (nI h) 1).bind (fun q16 => (X2_hasDone q16 (nI h)).bind (fun q17 => some q17))) = some S1 ∧ X2_goOn n τ S1 = some S' ∧ (X8_upTo (M00 σ) (nI h) (σ 19 h)).bind (fun q31 => X8_goOn n (sC q31 17 (upd (q31 17) h (q31 17 h + 1))) (nI h)) = some σ' ∧ mvd n τ S σ S' σ' N m kd nx ot G M M := by
  have m8 := hb.2.2.2.1
  obtain ⟨d8, hd8⟩ : ∃ d8, d8 = upd (upd (S 8) h (S 8 h + dl (S 8 h) (S 10 h))) h (S 8 h + dl (S 8 h) (S 10 h) + 1) := ⟨_, rfl⟩
  obtain ⟨d9, hd9⟩ : ∃ d9, d9 = upd (S 9) h (S 9 h + dl (S 8 h) (S 10 h)) := ⟨_, rfl⟩
  obtain ⟨S1, hS1⟩ : ∃ S1, S1 = sC (sC (sC (sC (S00 S) 8 (upd (S 8) h (S 8 h + dl (S 8 h) (S 10 h)))) 9 d9) 8 d8) 0 (am_u (S00 S 0) 15 (S 0 15 ||| (1 <<< (nI h &&& 31)))) := ⟨_, rfl⟩
  have c1 : (X2_raise (S00 S) (nI h) (jat 8 (S 10) (nI h))).bind (fun q15 => (X2_tick q15 (nI h) 1).bind (fun q16 => (X2_hasDone q16 (nI h)).bind (fun q17 => some q17))) = some S1 := by
    rw [jat_nI (by omega) (by omega), raise_eq (by omega)]
    dsimp only [Option.bind]
    unfold X2_tick
    dsimp only
    rw [jat_nI (by omega) (by omega), jput_nI (by omega) (by omega)]
    unfold X2_hasDone
    dsimp only
    rw [hS1, hd8, hd9]
    show some (sC (sC (sC (sC (S00 S) 8 (upd (S 8) h (S 8 h + dl (S 8 h) (S 10 h)))) 9 (upd (S 9) h (S 9 h + dl (S 8 h) (S 10 h)))) 8 (upd (upd (S 8) h (S 8 h + dl (S 8 h) (S 10 h))) h (upd (S 8) h (S 8 h + dl (S 8 h) (S 10 h)) h + 1))) 0 (am_u (S00 S 0) 15 (S 0 15 ||| (1 <<< (nI h &&& 31))))) = _
    rw [upd_eq]
  obtain ⟨e8, he8⟩ : ∃ e8, e8 = upd (upd (σ 17) h (σ 17 h + dl (σ 17 h) (σ 19 h))) h (σ 17 h + dl (σ 17 h) (σ 19 h) + 1) := ⟨_, rfl⟩
  obtain ⟨e9, he9⟩ : ∃ e9, e9 = upd (σ 18) h (σ 18 h + dl (σ 17 h) (σ 19 h)) := ⟨_, rfl⟩
  obtain ⟨σ1, hσ1⟩ : ∃ σ1, σ1 = sC (sC (sC (M00 σ) 17 (upd (σ 17) h (σ 17 h + dl (σ 17 h) (σ 19 h)))) 18 e9) 17 e8 := ⟨_, rfl⟩
  have c2 : (X8_upTo (M00 σ) (nI h) (σ 19 h)).bind (fun q31 => X8_goOn n (sC q31 17 (upd (q31 17) h (q31 17 h + 1))) (nI h)) = X8_goOn n σ1 (nI h) := by
    rw [upTo_eq (by omega)]
    dsimp only [Option.bind]
    rw [hσ1, he8, he9]
    show X8_goOn n (sC (sC (sC (M00 σ) 17 (upd (σ 17) h (σ 17 h + dl (σ 17 h) (σ 19 h)))) 18 (upd (σ 18) h (σ 18 h + dl (σ 17 h) (σ 19 h)))) 17 (upd (upd (σ 17) h (σ 17 h + dl (σ 17 h) (σ 19 h))) h (upd (σ 17) h (σ 17 h + dl (σ 17 h) (σ 19 h)) h + 1))) (nI h) = _
    rw [upd_eq]
  have S1c : ∀ c, c ≠ 0 → c ≠ 8 → c ≠ 9 → S1 c = S c := fun c h0 h1 h2 => by
    rw [hS1, sC_ne h0, sC_ne h1, sC_ne h2, sC_ne h1]
    exact sC_ne h0
  have S1f : ∀ k, k ≠ 12 → k ≠ 15 → S1 0 k = S 0 k := fun k h1 h2 => by
    rw [hS1]
    show am_u (am_u (S 0) 12 (-1)) 15 _ k = _
    rw [am_u_ne h2, am_u_ne h1]
  have S112 : S1 0 12 = -1 := by rw [hS1]; rfl
  have S115 : S1 0 15 = nI (2 ^ h) := by
    rw [hS1]
    show S 0 15 ||| (1 <<< (nI h &&& 31)) = _
    rw [hg, ← nI_0, (bit_or 0 (by omega) h (by omega)).1, Nat.zero_or]
  have σc : ∀ c, c ≠ 0 → c ≠ 17 → c ≠ 18 → σ1 c = σ c := fun c h0 h1 h2 => by
    rw [hσ1, sC_ne h1, sC_ne h2, sC_ne h1]
    exact sC_ne h0
  have σf : ∀ k, k ≠ 40 → σ1 0 k = σ 0 k := fun k h1 => by
    rw [hσ1]
    show am_u (σ 0) 40 (-1) k = _
    rw [am_u_ne h1]
  have σ40 : σ1 0 40 = -1 := by rw [hσ1]; rfl
  have hb1 : rB n τ S1 σ1 N m kd nx ot G := rB_congr (S := S) (σ := σ) (fun c q1 _ => S1c c (by omega) (by omega) (by omega)) (S1f 1 (by omega) (by omega)) (S1f 2 (by omega) (by omega)) (fun c q1 q2 => σc c (by omega) (by omega) (by omega)) (σf 3 (by omega)) (σf 4 (by omega)) hb
  have r1 := S1c 1 (by omega) (by omega) (by omega)
  have r15 := σc 15 (by omega) (by omega) (by omega)
  have ha1 : act S1 σ1 N m kd G h t := act_congr (S := S) (σ := σ) (by omega) (fun j _ => by rw [r1]) (S1f 1 (by omega) (by omega)) (S1c 11 (by omega) (by omega) (by omega)) (S1c 12 (by omega) (by omega) (by omega)) (fun j hj => by rw [r15]) ha
  obtain ⟨S', σ', w1, w2, w3⟩ := fin1m n hn (S1 := S1) (σ1 := σ1) (M' := M) hh hb hq hz ha (fun c hc => S1c c (by omega) (by omega) (by omega)) (fun k hk => S1f k (by omega) (by omega)) (fun j _ _ i _ => by rw [r1]) (fun c h1 h2 => σc c h1 (by omega) (by omega)) (fun k hk => σf k (by omega)) (fun x _ _ => by rw [r15]) (rW_congr (σw := am_sub S 2) (σ := σ) (fun c hc => S1c (2 + c) (by omega) (by omega) (by omega)) (fun j _ => by rw [r15]) hq.2.1) (fun k hk => by rw [r15]; exact hq.2.2 k hk) (by omega) (fun B hB hc => by
    obtain ⟨r1, r2, r3, r4, ⟨x, x1, x2, x3⟩, ⟨y, y1, y2, y3⟩⟩ := hc
    obtain ⟨a, a1, a2, a3⟩ := r1 h (by omega)
    obtain ⟨b, b1, b2, b3⟩ := r3 h (by omega)
    refine ⟨fun j hj => ?_, fun j hj => ?_, fun j hj => ?_, fun k hk => ?_, ⟨x, x1, by rw [S1f 3 (by omega) (by omega)]; exact x2, by rw [σf 5 (by omega)]; exact x3⟩, ⟨y, y1, by rw [S1f 4 (by omega) (by omega)]; exact y2, by rw [σf 6 (by omega)]; exact y3⟩⟩
    · rw [show S1 8 = d8 by rw [hS1], show σ1 17 = e8 by rw [hσ1], hd8, he8]
      by_cases e : j = h
      · subst e
        exact ⟨max a b + 1, by omega, by rw [upd_eq, a2, b2, dl_nI (by omega) (by omega), nI_1], by rw [upd_eq, a3, b3, dl_nI (by omega) (by omega), nI_1]⟩
      · obtain ⟨z, z1, z2, z3⟩ := r1 j hj
        exact ⟨z, by omega, by rw [upd_ne e, upd_ne e, z2], by rw [upd_ne e, upd_ne e, z3]⟩
    · rw [show S1 9 = d9 by rw [hS1], show σ1 18 = e9 by rw [hσ1], hd9, he9]
      by_cases e : j = h
      · subst e
        rw [upd_eq, upd_eq, r2 j hj, a2, a3, b2, b3]
      · rw [upd_ne e, upd_ne e]; exact r2 j hj
    · obtain ⟨z, z1, z2, z3⟩ := r3 j hj
      exact ⟨z, by omega, by rw [S1c 10 (by omega) (by omega) (by omega)]; exact z2, by rw [σc 19 (by omega) (by omega) (by omega)]; exact z3⟩
    · obtain ⟨z, z1, z2, z3⟩ := r4 k hk
      exact ⟨z, by omega, by rw [S1c 6 (by omega) (by omega) (by omega)]; exact z2, by rw [σc 20 (by omega) (by omega) (by omega)]; exact z3⟩) (Or.inl ⟨S112, σ40⟩) (pend_act hb1 ha1) S115
  exact ⟨S1, S', σ', c1, w1, c2.trans w2, w3⟩
