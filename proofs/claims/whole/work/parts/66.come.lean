/-! COMING TO A STEP -/
theorem stS_stS {S : am_M} {f st f' st' : Nat → Int32} : stS (stS S f st) f' st' = stS S f' st' := by
  show sC (sC (stS S f st) 1 f') 7 st' = _
  rw [stS_1, stS_7]
theorem stM_stM {σ : am_M} {g st g' st' : Nat → Int32} : stM (stM σ g st) g' st' = stM σ g' st' := by
  show sC (sC (stM σ g st) 15 g') 16 st' = _
  rw [stM_15, stM_16]
theorem rOut_st {τ : Nat → Int64} {σ : am_M} {g st : Nat → Int32} {N : Nat} {kd : Nat → Nat} (h : rOut τ σ N kd) : rOut τ (stM σ g st) N kd := h
/-- the STEP isn't QUIET: there the HAND stays -/
def stays (σ : am_M) (N : Nat) (kd : Nat → Nat) (t : Nat) : Prop := t = N ∨ (t < N ∧ kd t < 8 ∧ σ 14 t = 0)
theorem rowC_trans {f g k : Nat → Int32} {h : Nat} (a : rowC g f h) (b : rowC k g h) : rowC k f h := fun j h1 h2 => (b j h1 h2).trans (a j h1 h2)
theorem rowM_trans {f g k : Nat → Int32} {h : Nat} (a : rowM g f h) (b : rowM k g h) : rowM k f h := fun j h1 h2 h3 => (b j h1 h2 h3).trans (a j h1 h2 h3)
theorem quiet_no (n : Nat) {S σ : am_M} {τ : Nat → Int64} {N t : Nat} {kd nx ot : Nat → Nat} {G : Nat → Nat → List Int32} (hs : rScr n S σ N kd nx ot G) (ho : rOut τ σ N kd) (hst : stays σ N kd t) : X2_isQuiet S τ (nI t) = false := by
  obtain ⟨hN4, hN, hN2, hstp⟩ := hs
  unfold X2_isQuiet
  rcases hst with rfl | ⟨ht, hk, h14⟩
  · rw [kindOf_end hN hN4, if_pos rfl]
  · obtain ⟨⟨k1, k2, k3⟩, -⟩ := hstp t ht
    have h2 : X2_isLeftOut S τ (nI t) = false := by
      rcases ho t ht with ⟨o1, o2⟩ | ⟨o1, -⟩
      · exact o2 S
      · rw [h14] at o1; exact absurd o1 (by decide)
    rw [kindOf_eq hN hN4 ht k2, if_neg (pu_ne1 (by omega)), if_neg (show ¬ (8 : Int32) ≤ nI (kd t) by rw [show (8 : Int32) = nI 8 from rfl, pu_le (by omega) (by omega)]; omega), h2, if_neg (by decide)]
/-- over the QUIET STEPS to the one where the HAND stays -/
theorem come_loop (n : Nat) (hn : 2200 < n) {S0 σ0 : am_M} {τ : Nat → Int64} {N m h : Nat} {kd nx ot : Nat → Nat} {G : Nat → Nat → List Int32} (hs : rScr n S0 σ0 N kd nx ot G) (hh : h < 8) (ho : rOut τ σ0 N kd) (hm : σ0 0 3 = nI m) : ∀ (d t i K K' : Nat) (f st g st' : Nat → Int32), N - t ≤ d → t ≤ N → i + (N - t) ≤ 40 → d < K → d < K' → rEv (stS S0 f st) (stM σ0 g st') m h →
    ∃ (t' : Nat) (f' s1 g' s2 : Nat → Int32) (K2 : Nat), t ≤ t' ∧ stays σ0 N kd t' ∧ X2_arrive_L5 n τ K (stS S0 f st) (nI h) (nI t) (nI i) = X2_arrive_J33 n τ (stS S0 f' s1) (nI h) (nI t') ∧ X8_come_L5 n (K' + 1) (stM σ0 g st') (nI h) (tgt N t) 1 = X8_come_B5 n (X8_come_L5 n K2) (stM σ0 (upd g' (8 * h + 0) (tgt N t')) s2) (nI h) (tgt N t') 0 ∧ rowC f' f h ∧ rowM g' g h ∧ rEv (stS S0 f' s1) (stM σ0 g' s2) m h := by
  intro d
  induction d with
  | zero =>
    intro t i K K' f st g st' hd ht hi hK hK' hr
    have e : t = N := by omega
    subst e
    obtain ⟨K, rfl⟩ : ∃ J, K = J + 1 := ⟨K - 1, by omega⟩
    obtain ⟨K', rfl⟩ : ∃ J, K' = J + 1 := ⟨K' - 1, by omega⟩
    refine ⟨t, f, st, g, st', K', Nat.le_refl _, Or.inl rfl, ?_, ?_, fun j _ _ => rfl, fun j _ _ _ => rfl, hr⟩
    · show X2_arrive_B5 n τ (X2_arrive_L5 n τ K) (stS S0 f st) (nI h) (nI t) (nI i) = _
      unfold X2_arrive_B5
      rw [if_neg (show ¬ (40 : Int32) < nI i by rw [show (40 : Int32) = nI 40 from rfl, pu_lt (by omega) (by omega)]; omega), quiet_no n (rScr_st (f := f) (st := st) (g := g) (s' := st') hs) (rOut_st ho) (Or.inl rfl), if_neg (by decide)]
    · have e1 : tgt t t = -1 := if_pos rfl
      rw [e1]
      show X8_come_B5 n (X8_come_L5 n (K' + 1)) (stM σ0 g st') (nI h) (-1) 1 = _
      unfold X8_come_B5
      rw [if_neg (show ¬ (1 : Int32) = 0 by decide), X8_p0 hh]
      dsimp only [Option.bind]
      rw [if_pos rfl]
      unfold X8_come_J46 X8_come_J47
      rw [if_pos rfl, stM_15]
      rfl
  | succ d ih =>
    intro t i K K' f st g st' hd ht hi hK hK' hr
    obtain ⟨K, rfl⟩ : ∃ J, K = J + 1 := ⟨K - 1, by omega⟩
    obtain ⟨K', rfl⟩ : ∃ J, K' = J + 1 := ⟨K' - 1, by omega⟩
    have hs1 := rScr_st (f := f) (st := st) (g := g) (s' := st') hs
    have i40 : ¬ (40 : Int32) < nI i := by rw [show (40 : Int32) = nI 40 from rfl, pu_lt (by omega) (by omega)]; omega
    by_cases hst : stays σ0 N kd t
    · refine ⟨t, f, st, g, st', K', Nat.le_refl _, hst, ?_, ?_, fun j _ _ => rfl, fun j _ _ _ => rfl, hr⟩
      · show X2_arrive_B5 n τ (X2_arrive_L5 n τ K) (stS S0 f st) (nI h) (nI t) (nI i) = _
        unfold X2_arrive_B5
        rw [if_neg i40, quiet_no n hs1 (rOut_st ho) hst, if_neg (by decide)]
      · show X8_come_B5 n (X8_come_L5 n (K' + 1)) (stM σ0 g st') (nI h) (tgt N t) 1 = _
        rcases hst with e | ⟨h1, h2, h3⟩
        · subst e
          have e1 : tgt t t = -1 := if_pos rfl
          rw [e1]
          unfold X8_come_B5
          rw [if_neg (show ¬ (1 : Int32) = 0 by decide), X8_p0 hh]
          dsimp only [Option.bind]
          rw [if_pos rfl]
          unfold X8_come_J46 X8_come_J47
          rw [if_pos rfl, stM_15]
          rfl
        · obtain ⟨hN4, -, -, hstp⟩ := hs
          obtain ⟨⟨k1, k2, k3⟩, -⟩ := hstp t h1
          have e1 : tgt N t = nI t := if_neg (by omega)
          rw [e1]
          suffices hL : ∀ kont : am_M → Int32 → Int32 → Int32 → Option am_M, X8_come_B5 n kont (stM σ0 g st') (nI h) (nI t) 1 = kont (stM σ0 (upd g (8 * h + 0) (nI t)) st') (nI h) (nI t) 0 from hL _
          intro kont
          unfold X8_come_B5
          rw [if_neg (show ¬ (1 : Int32) = 0 by decide), X8_p0 hh]
          dsimp only [Option.bind]
          rw [if_neg (pu_ne1 (by omega)), if_neg (pu_g (n := 40) (by omega) (by omega)), nI_clamp (by omega), stM_15, if_pos (show stM σ0 (upd (stM σ0 g st' 15) (8 * h + 0) (nI t)) st' 14 t = 0 from h3), if_neg (fun q => by rcases q with q | q; exact pu_nlt0 (by omega) q; omega), if_pos (show stM σ0 (upd (stM σ0 g st' 15) (8 * h + 0) (nI t)) st' 6 t < 8 by
            show σ0 6 t < 8
            rw [k3, show (8 : Int32) = nI 8 from rfl, pu_lt (by omega) (by omega)]
            exact h2)]
          unfold X8_come_J46 X8_come_J47
          rw [if_pos rfl]
          rfl
    · have htN : t < N := by
        rcases Nat.lt_or_ge t N with h | h
        · exact h
        · exact absurd (Or.inl (by omega)) hst
      have hq : 8 ≤ kd t ∨ (stM σ0 g st') 14 t = 1 := by
        by_cases h8 : 8 ≤ kd t
        · exact Or.inl h8
        · rcases ho t htN with ⟨o1, -⟩ | ⟨o1, -⟩
          · exact absurd (Or.inr ⟨htN, by omega, o1⟩) hst
          · exact Or.inr o1
      obtain ⟨t1, f1, s1, g1, s2, a1, a2, a3, a4, a5, a6, a7, a8⟩ := quiet_both n hn hs1 hh htN (rOut_st ho) hq hr hm
      rw [stS_stS] at a4
      have a5' := a5 (X8_come_L5 n (K' + 1))
      rw [stM_stM] at a5'
      rw [stS_stS, stM_stM] at a8
      obtain ⟨t', f', u1, g', u2, K2, b1, b2, b3, b4, b5, b6, b7⟩ := ih t1 (i + 1) K K' f1 s1 g1 s2 (by omega) a2 (by omega) (by omega) (by omega) a8
      refine ⟨t', f', u1, g', u2, K2, by omega, b2, ?_, ?_, rowC_trans a6 b5, rowM_trans a7 b6, b7⟩
      · show X2_arrive_B5 n τ (X2_arrive_L5 n τ K) (stS S0 f st) (nI h) (nI t) (nI i) = _
        unfold X2_arrive_B5
        rw [if_neg i40, a3, if_pos rfl, a4]
        dsimp only [Option.bind]
        rw [nI_1]
        exact b3
      · have e1 : tgt N t = nI t := if_neg (by omega)
        rw [e1]
        show X8_come_B5 n (X8_come_L5 n (K' + 1)) (stM σ0 g st') (nI h) (nI t) 1 = _
        rw [a5']
        exact b4
