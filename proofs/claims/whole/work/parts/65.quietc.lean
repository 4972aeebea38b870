/-- a QUIET STEP in both -/
theorem quiet_both (n : Nat) (hn : 2200 < n) {S σ : am_M} {τ : Nat → Int64} {N m h t : Nat} {kd nx ot : Nat → Nat} {G : Nat → Nat → List Int32} (hs : rScr n S σ N kd nx ot G) (hh : h < 8) (ht : t < N) (ho : rOut τ σ N kd) (hq : 8 ≤ kd t ∨ σ 14 t = 1) (hr : rEv S σ m h) (hm : σ 0 3 = nI m) :
    ∃ (t' : Nat) (f st g st' : Nat → Int32), t < t' ∧ t' ≤ N ∧ X2_isQuiet S τ (nI t) = true ∧ X2_pass n τ S (nI h) (nI t) = some (nI t', stS S f st) ∧ (∀ kont : am_M → Int32 → Int32 → Int32 → Option am_M, X8_come_B5 n kont σ (nI h) (nI t) 1 = kont (stM σ g st') (nI h) (tgt N t') 1) ∧ rowC f (S 1) h ∧ rowM g (σ 15) h ∧ rEv (stS S f st) (stM σ g st') m h := by
  obtain ⟨q1, st, q2⟩ := pass_eq n hn (m := m) (h := h) hs hh ht ho hq
  obtain ⟨st', q3⟩ := comeq_eq n hn hs hh ht ho hq hr hm
  obtain ⟨hN4, hN, hN2, hst⟩ := hs
  obtain ⟨⟨k1, k2, k3⟩, ⟨b1, b2, b3⟩, ⟨v, c1, c2, c3⟩, d, e, f, g⟩ := hst t ht
  obtain ⟨r2, r6, r7, r8, r9⟩ := hr
  have base : rowC (S 1) (S 1) h ∧ rowM (upd (σ 15) (8 * h + 0) (nI t)) (σ 15) h := ⟨fun j _ _ => rfl, fun j h1 _ _ => upd_ne h1⟩
  have ev0 : ∀ st st', rEv (stS S (S 1) st) (stM σ (upd (σ 15) (8 * h + 0) (nI t)) st') m h := fun st st' => by
    refine ⟨fun v hv => ?_, r6, r7, ?_, ?_⟩
    · show S 1 _ = upd (σ 15) (8 * h + 0) (nI t) _
      rw [upd_ne (by omega)]; exact r2 v hv
    · show S 1 _ = upd (σ 15) (8 * h + 0) (nI t) _
      rw [upd_ne (by omega)]; exact r8
    · show S 1 _ = upd (σ 15) (8 * h + 0) (nI t) _
      rw [upd_ne (by omega)]; exact r9
  by_cases ho1 : σ 14 t = 1
  · refine ⟨nx t, S 1, S 7, _, st', b1, b2, q1, ?_, fun kont => ?_, base.1, base.2, ev0 _ _⟩
    · rw [q2, if_pos ho1, stS_self]
    · rw [q3 kont, if_pos ho1]
  · have hk8 : 8 ≤ kd t := by
      rcases hq with h | h
      · exact h
      · exact absurd h ho1
    rw [if_neg ho1] at q2
    rcases (show kd t = 8 ∨ kd t = 9 ∨ kd t = 10 by omega) with h8 | h8 | h8
    · rw [if_pos h8, c2, nI_clamp (by omega)] at q2
      refine ⟨nx t, _, st, upd (upd (σ 15) (8 * h + 0) (nI t)) (8 * h + 2 + v) (aV S h (G t 2)), st', b1, b2, q1, q2, fun kont => ?_, fun j h1 h2 => upd_ne (by omega), fun j h1 h2 h3 => ?_, ?_⟩
      · rw [q3 kont, if_neg ho1, if_pos h8, c2, nI_clamp (by omega)]
      · rw [upd_ne (by omega), upd_ne h1]
      · refine ⟨fun w hw => ?_, ?_, ?_, ?_, ?_⟩
        · show upd (S 1) (13 * h + 2 + v) _ (13 * h + 2 + w) = upd (upd (σ 15) (8 * h + 0) (nI t)) (8 * h + 2 + v) _ (8 * h + 2 + w)
          by_cases hvw : w = v
          · subst hvw
            rw [upd_eq, upd_eq]
          · rw [upd_ne (by omega), upd_ne (by omega), upd_ne (by omega)]
            exact r2 w hw
        · show upd (S 1) (13 * h + 2 + v) _ (13 * h + 6) = _
          rw [upd_ne (by omega)]; exact r6
        · show upd (S 1) (13 * h + 2 + v) _ (13 * h + 7) = _
          rw [upd_ne (by omega)]; exact r7
        · show upd (S 1) (13 * h + 2 + v) _ (13 * h + 8) = upd (upd (σ 15) (8 * h + 0) (nI t)) (8 * h + 2 + v) _ (8 * h + 6)
          rw [upd_ne (by omega), upd_ne (by omega), upd_ne (by omega)]; exact r8
        · show upd (S 1) (13 * h + 2 + v) _ (13 * h + 9) = upd (upd (σ 15) (8 * h + 0) (nI t)) (8 * h + 2 + v) _ (8 * h + 7)
          rw [upd_ne (by omega), upd_ne (by omega), upd_ne (by omega)]; exact r9
    · rw [if_neg (by omega), if_pos h8] at q2
      refine ⟨nx t, _, st, upd (upd (σ 15) (8 * h + 0) (nI t)) (8 * h + 7) (31 * σ 15 (8 * h + 7) + aV S h (G t 2)), st', b1, b2, q1, q2, fun kont => ?_, fun j h1 h2 => upd_ne (by omega), fun j h1 h2 h3 => ?_, ?_⟩
      · rw [q3 kont, if_neg ho1, if_neg (by omega), if_pos h8]
      · rw [upd_ne (by omega), upd_ne h1]
      · refine ⟨fun w hw => ?_, ?_, ?_, ?_, ?_⟩
        · show upd (S 1) (13 * h + 9) _ (13 * h + 2 + w) = upd (upd (σ 15) (8 * h + 0) (nI t)) (8 * h + 7) _ (8 * h + 2 + w)
          rw [upd_ne (by omega), upd_ne (by omega), upd_ne (by omega)]
          exact r2 w hw
        · show upd (S 1) (13 * h + 9) _ (13 * h + 6) = _
          rw [upd_ne (by omega)]; exact r6
        · show upd (S 1) (13 * h + 9) _ (13 * h + 7) = _
          rw [upd_ne (by omega)]; exact r7
        · show upd (S 1) (13 * h + 9) _ (13 * h + 8) = upd (upd (σ 15) (8 * h + 0) (nI t)) (8 * h + 7) _ (8 * h + 6)
          rw [upd_ne (by omega), upd_ne (by omega), upd_ne (by omega)]; exact r8
        · show upd (S 1) (13 * h + 9) _ (13 * h + 9) = upd (upd (σ 15) (8 * h + 0) (nI t)) (8 * h + 7) _ (8 * h + 7)
          rw [upd_eq, upd_eq, r9, Int32.mul_comm]
    · obtain ⟨f1, f2, f3, -⟩ := f h8
      rw [if_neg (by omega), if_neg (by omega)] at q2
      by_cases hv : aV S h (G t 2) = 0
      · rw [if_pos hv] at q2
        refine ⟨ot t, S 1, st, _, st', f1, f2, q1, q2, fun kont => ?_, base.1, base.2, ev0 _ _⟩
        rw [q3 kont, if_neg ho1, if_neg (by omega), if_neg (by omega), if_pos hv]
      · rw [if_neg hv] at q2
        refine ⟨nx t, S 1, st, _, st', b1, b2, q1, q2, fun kont => ?_, base.1, base.2, ev0 _ _⟩
        rw [q3 kont, if_neg ho1, if_neg (by omega), if_neg (by omega), if_neg hv]
