/-! COMING: both sides -/
theorem nI_ex {v : Int32} (h : ¬ v < 0) : ∃ k : Nat, k < 2 ^ 31 ∧ v = nI k := by
  have h0 : ¬ v.toInt < 0 := fun q => h (by rw [Int32.lt_iff_toInt_lt, show (0 : Int32).toInt = 0 by decide]; exact q)
  have h1 := v.toInt_lt
  refine ⟨v.toInt.toNat, by omega, ?_⟩
  rw [← Int32.toInt_inj, nI_toInt (by omega)]
  omega
theorem isHand_iff {S : am_M} {m : Nat} {v : Int32} (hm8 : m ≤ 8) (hm : S 0 1 = nI m) : X2_isHand S v = true ↔ ∃ o, o < m ∧ v = nI o := by
  unfold X2_isHand
  by_cases h0 : v < 0
  · rw [if_pos h0]
    refine ⟨fun q => absurd q (by decide), fun ⟨o, h1, h2⟩ => absurd h0 (by rw [h2]; exact pu_nlt0 (by omega))⟩
  · rw [if_neg h0]
    obtain ⟨k, hk, rfl⟩ := nI_ex h0
    rw [hm]
    by_cases h1 : k < m
    · rw [if_neg (by rw [pu_le (by omega) hk]; omega)]
      exact ⟨fun _ => ⟨k, h1, rfl⟩, fun _ => rfl⟩
    · rw [if_pos (by rw [pu_le (by omega) hk]; omega)]
      exact ⟨fun q => absurd q (by decide), fun ⟨o, h2, h3⟩ => absurd ((nI_eq hk (by omega)).mp h3) (by omega)⟩
theorem isIn_iff {m : Nat} {v : Int32} (hm0 : 0 < m) (hm8 : m ≤ 8) : X8_isIn v 0 (nI m - 1) = true ↔ ∃ o, o < m ∧ v = nI o := by
  unfold X8_isIn
  obtain ⟨j, rfl⟩ : ∃ j, m = j + 1 := ⟨m - 1, by omega⟩
  rw [nI_pred]
  by_cases h0 : v < 0
  · rw [if_pos h0]
    refine ⟨fun q => absurd q (by decide), fun ⟨o, h1, h2⟩ => absurd h0 (by rw [h2]; exact pu_nlt0 (by omega))⟩
  · rw [if_neg h0]
    obtain ⟨k, hk, rfl⟩ := nI_ex h0
    by_cases h1 : k < j + 1
    · rw [if_neg (by rw [pu_lt (by omega) hk]; omega)]
      exact ⟨fun _ => ⟨k, h1, rfl⟩, fun _ => rfl⟩
    · rw [if_pos (by rw [pu_lt (by omega) hk]; omega)]
      exact ⟨fun q => absurd q (by decide), fun ⟨o, h2, h3⟩ => absurd ((nI_eq hk (by omega)).mp h3) (by omega)⟩
/-- the class: stops, or not -/
theorem j118_eq {n : Nat} {τ : Nat → Int64} {S : am_M} {m h : Nat} {f st : Nat → Int32} (hh : h < 8) (hm8 : m ≤ 8) (hm : S 0 1 = nI m) : X2_arrive_J118 n τ (stS S f st) (nI h) 1 = some (stS S (if ∃ o, o < m ∧ o ≠ h ∧ f (13 * h + 10) = nI o then f else stop4 f h) st) := by
  unfold X2_arrive_J118 X2_arrive_J150
  rw [if_neg (by decide), X2_g10 hh, X2_stop_eq hh, stS_1]
  show (if X2_isHand (stS S f st) (f (13 * h + 10)) = true then _ else _) = _
  by_cases hc : X2_isHand (stS S f st) (f (13 * h + 10)) = true
  · rw [if_pos hc]
    obtain ⟨o, h1, h2⟩ := (isHand_iff (S := stS S f st) hm8 hm).mp hc
    show (if f (13 * h + 10) = nI h then _ else _) = _
    by_cases e : o = h
    · rw [if_pos (by rw [h2, e]), if_neg (fun ⟨p, q1, q2, q3⟩ => q2 (by
        rw [h2] at q3
        have := (nI_eq (by omega) (by omega)).mp q3
        omega))]
      rfl
    · rw [if_neg (fun q => e (by rw [h2] at q; exact (nI_eq (by omega) (by omega)).mp q)), if_pos ⟨o, h1, e, h2⟩]
  · rw [if_neg hc, if_neg (fun ⟨p, q1, q2, q3⟩ => hc ((isHand_iff (S := stS S f st) hm8 hm).mpr ⟨p, q1, q3⟩))]
    rfl
/-- the reference at its end of come -/
theorem come_stop (n : Nat) (hn : 2200 < n) {S σ : am_M} {N m h t : Nat} {kd nx ot : Nat → Nat} {G : Nat → Nat → List Int32} {kont : am_M → Int32 → Int32 → Int32 → Option am_M} (hs : rScr n S σ N kd nx ot G) (hh : h < 8) (hm0 : 0 < m) (hm8 : m ≤ 8) (hr : rEv S σ m h) (hm : σ 0 3 = nI m) (ht : t ≤ N) (hat : σ 15 (8 * h + 0) = tgt N t) : ∃ st', X8_come_B5 n kont σ (nI h) (tgt N t) 0 = some (stM σ (if t < N ∧ kd t ≤ 3 ∧ ¬ (∃ o, o < m ∧ o ≠ h ∧ aV S h (G t 0) = nI o) then upd (σ 15) (8 * h + 1) 1 else σ 15) st') := by
  have hs0 := hs
  obtain ⟨hN4, hN, hN2, hstp⟩ := hs
  unfold X8_come_B5
  rw [if_pos rfl]
  by_cases h1 : t < N
  · obtain ⟨⟨k1, k2, k3⟩, -, -, d, -⟩ := hstp t h1
    have e1 : tgt N t = nI t := if_neg (by omega)
    rw [e1] at hat ⊢
    rw [if_neg (pu_ne1 (by omega)), if_neg (pu_g (n := 80) (by omega) (by omega)), nI_clamp (by omega), k3]
    by_cases h3 : kd t ≤ 3
    · rw [if_neg (by rw [show (3 : Int32) = nI 3 from rfl, pu_lt (by omega) (by omega)]; omega)]
      have hA := (d 0 (by omega)).1 (by
        unfold hasA
        simp only [Bool.or_eq_true, Bool.and_eq_true, decide_eq_true_eq]
        rcases (show kd t ≤ 2 ∨ kd t = 3 by omega) with q | q
        · exact Or.inl (Or.inl (Or.inl q))
        · exact Or.inl (Or.inl (Or.inr ⟨q, by omega⟩)))
      rw [show mkA (kd t) 0 = 0 by unfold mkA; split <;> rfl] at hA
      obtain ⟨st', hask⟩ := ask_md n hn (k := 0) (by omega) (by omega) hh hr hm hat hA
      refine ⟨st', ?_⟩
      unfold X8_hasOther
      erw [hask]
      dsimp only [Option.bind]
      have hI : X8_isIn (aV S h (G t 0)) 0 (sC σ 16 st' 0 3 - 1) = X8_isIn (aV S h (G t 0)) 0 (nI m - 1) := by rw [show (sC σ 16 st' 0 3) = nI m from hm]
      have e16 : sC σ 16 st' = stM σ (σ 15) st' := by
        funext k
        simp only [stM, sC_app]
        by_cases h7 : k = 16
        · simp [h7]
        · by_cases h1 : k = 15 <;> simp [h1, h7]
      by_cases hc : X8_isIn (aV S h (G t 0)) 0 (nI m - 1) = true
      · rw [if_pos (hI.trans hc)]
        obtain ⟨o, q1, q2⟩ := (isIn_iff hm0 hm8).mp hc
        by_cases e : o = h
        · rw [if_pos (by rw [q2, e]), if_pos ⟨h1, h3, fun ⟨p, r1, r2, r3⟩ => r2 (by
            rw [q2] at r3
            have := (nI_eq (by omega) (by omega)).mp r3
            omega)⟩]
          dsimp only
          rw [if_neg (by decide), X8_p1 hh]
          dsimp only [Option.bind]
          rw [e16, stM_15]
          rfl
        · rw [if_neg (fun q => e (by rw [q2] at q; exact (nI_eq (by omega) (by omega)).mp q)), if_neg (fun q => q.2.2 ⟨o, q1, e, q2⟩)]
          dsimp only
          rw [if_pos rfl, e16]
      · rw [if_neg (fun q => hc (hI.symm.trans q)), if_pos ⟨h1, h3, fun ⟨p, r1, r2, r3⟩ => hc ((isIn_iff hm0 hm8).mpr ⟨p, r1, r3⟩)⟩]
        dsimp only
        rw [if_neg (by decide), X8_p1 hh]
        dsimp only [Option.bind]
        rw [e16, stM_15]
        rfl
    · refine ⟨σ 16, ?_⟩
      rw [if_pos (by rw [show (3 : Int32) = nI 3 from rfl, pu_lt (by omega) (by omega)]; omega), if_neg (fun q => h3 q.2.1), stM_self]
  · refine ⟨σ 16, ?_⟩
    have e : t = N := by omega
    rw [show tgt N t = -1 from if_pos e, if_pos rfl, if_neg (fun q => h1 q.1), stM_self]
/-- a HAND comes to a STEP -/
theorem come_both (n : Nat) (hn : 2200 < n) {S σ : am_M} {τ : Nat → Int64} {N m h t : Nat} {kd nx ot : Nat → Nat} {G : Nat → Nat → List Int32} (hs : rScr n S σ N kd nx ot G) (hh : h < 8) (ho : rOut τ σ N kd) (hm0 : 0 < m) (hm8 : m ≤ 8) (hSm : S 0 1 = nI m) (hm : σ 0 3 = nI m) (ht : t ≤ N) (hr : rEv S σ m h) (hb : S 1 (13 * h + 1) = 0) (hb' : σ 15 (8 * h + 1) = 0) :
    ∃ (f st g st' : Nat → Int32), X2_arrive n τ S (nI h) (nI t) = some (stS S f st) ∧ X8_come n σ (nI h) (tgt N t) = some (stM σ g st') ∧ owC f (S 1) h ∧ owM g (σ 15) h ∧ rHD (stS S f st) (stM σ g st') N m kd G h ∧ ∃ t', t ≤ t' ∧ t' ≤ N ∧ f (13 * h + 0) = tgt N t' := by
  have hN4 := hs.1
  obtain ⟨K, hK⟩ : ∃ K, n = K + 1 := ⟨n - 1, by omega⟩
  obtain ⟨t', f', s1, g', s2, K2, a1, a2, a3, a4, a5, a6, a7⟩ := come_loop n hn (S0 := S) (σ0 := σ) hs hh ho hm 40 t 0 n K (S 1) (S 7) (σ 15) (σ 16) (by omega) ht (by omega) (by omega) (by omega) (by rw [stS_self, stM_self]; exact hr)
  rw [stS_self, stM_self] at *
  have ht' : t' ≤ N := by rcases a2 with q | q <;> omega
  have hk8 : t' < N → kd t' < 8 := fun q => by rcases a2 with r | r; omega; exact r.2.1
  obtain ⟨st, b1⟩ := arr_end n hn (τ := τ) (f := f') (st := s1) hs hh ht'
  have hs2 := rScr_st (f := f') (st := s1) (g := upd g' (8 * h + 0) (tgt N t')) (s' := s2) hs
  obtain ⟨c1, c2, c3, c4, c5⟩ := a7
  have hr2 : rEv (stS S f' s1) (stM σ (upd g' (8 * h + 0) (tgt N t')) s2) m h := by
    refine ⟨fun v hv => ?_, c2, c3, ?_, ?_⟩
    · show f' _ = upd g' _ _ _
      rw [upd_ne (by omega)]; exact c1 v hv
    · show f' _ = upd g' _ _ _
      rw [upd_ne (by omega)]; exact c4
    · show f' _ = upd g' _ _ _
      rw [upd_ne (by omega)]; exact c5
  obtain ⟨st', b2⟩ := come_stop n hn (t := t') (kont := X8_come_L5 n K2) hs2 hh hm0 hm8 hr2 hm ht' upd_eq
  rw [stM_stM] at b2
  have b3 : X8_come n σ (nI h) (tgt N t) = some (stM σ (if t' < N ∧ kd t' ≤ 3 ∧ ¬ (∃ o, o < m ∧ o ≠ h ∧ aV (stS S f' s1) h (G t' 0) = nI o) then upd (upd g' (8 * h + 0) (tgt N t')) (8 * h + 1) 1 else upd g' (8 * h + 0) (tgt N t')) st') := by
    rw [show X8_come n σ (nI h) (tgt N t) = X8_come_L5 n (K + 1) σ (nI h) (tgt N t) 1 by unfold X8_come; congr 1]
    rw [a4]
    exact b2
  have b4 : X2_arrive n τ S (nI h) (nI t) = X2_arrive_J33 n τ (stS S f' s1) (nI h) (nI t') := a3
  rw [b1] at b4
  obtain ⟨A, hA⟩ : ∃ A, A = aE (stS S f' s1) h N kd G t' := ⟨_, rfl⟩
  rw [← hA] at b4
  have hf1 : f' (13 * h + 1) = 0 := by rw [a5 _ (by omega) (by omega)]; exact hb
  have hg1 : g' (8 * h + 1) = 0 := by rw [a6 _ (by omega) (by omega) (by omega)]; exact hb'
  have arNe : ∀ j, ¬ (j = 13 * h + 0 ∨ (13 * h + 10 ≤ j ∧ j ≤ 13 * h + 12)) → arF f' h (tgt N t') A j = f' j := fun j hj => by
    unfold arF
    rw [upd_ne (by omega), upd_ne (by omega), upd_ne (by omega), upd_ne (by omega)]
  have ar0 : arF f' h (tgt N t') A (13 * h + 0) = tgt N t' := by
    unfold arF
    rw [upd_ne (by omega), upd_ne (by omega), upd_ne (by omega), upd_eq]
  have arw : ∀ w, w < 3 → arF f' h (tgt N t') A (13 * h + 10 + w) = A w := fun w hw => by
    unfold arF
    rcases (show w = 0 ∨ w = 1 ∨ w = 2 by omega) with rfl | rfl | rfl
    · rw [upd_ne (by omega), upd_ne (by omega)]; exact upd_eq
    · rw [upd_ne (by omega)]; exact upd_eq
    · exact upd_eq
  by_cases hst : t' < N ∧ kd t' ≤ 3 ∧ ¬ (∃ o, o < m ∧ o ≠ h ∧ aV (stS S f' s1) h (G t' 0) = nI o)
  · rw [if_pos hst] at b3
    obtain ⟨p1, p2, p3⟩ := hst
    have hA0 : A 0 = aV (stS S f' s1) h (G t' 0) := by
      rw [hA]
      unfold aE aF
      rw [if_pos p1, if_pos (by
        unfold hasA
        simp only [Bool.or_eq_true, Bool.and_eq_true, decide_eq_true_eq]
        rcases (show kd t' ≤ 2 ∨ kd t' = 3 by omega) with q | q
        · exact Or.inl (Or.inl (Or.inl q))
        · exact Or.inl (Or.inl (Or.inr ⟨q, by omega⟩)))]
    rw [if_pos ⟨p1, p2⟩, j118_eq hh hm8 hSm, if_neg (fun ⟨o, q1, q2, q3⟩ => p3 ⟨o, q1, q2, by rw [← hA0, ← arw 0 (by omega)]; exact q3⟩)] at b4
    refine ⟨_, _, _, _, b4, b3, fun j hj => ?_, fun j hj => ?_, ⟨?_, t', 1, ht', by omega, hk8, fun _ => p1, ?_, ?_, ?_, ?_, fun w hw => ?_, fun _ q => absurd q (by decide)⟩, t', a1, ht', ?_⟩
    · unfold stop4
      rw [upd_ne (by omega), upd_ne (by omega), upd_ne (by omega), upd_ne (by omega), arNe _ (by omega)]
      exact a5 j (by omega) (by omega)
    · rw [upd_ne (by omega), upd_ne (by omega)]
      exact a6 j (by omega) (by omega) (by omega)
    · have sne : ∀ j, 2 ≤ j → j ≤ 9 → stop4 (arF f' h (tgt N t') A) h (13 * h + j) = f' (13 * h + j) := fun j q1 q2 => by
        unfold stop4
        rw [upd_ne (by omega), upd_ne (by omega), upd_ne (by omega), upd_ne (by omega), arNe _ (by omega)]
      refine ⟨fun v hv => ?_, ?_, ?_, ?_, ?_⟩
      · show stop4 _ _ _ = upd (upd g' _ _) _ _ _
        rw [upd_ne (by omega), upd_ne (by omega), show 13 * h + 2 + v = 13 * h + (2 + v) by omega, sne _ (by omega) (by omega), show 13 * h + (2 + v) = 13 * h + 2 + v by omega]; exact c1 v hv
      · show stop4 _ _ _ = _
        rw [sne _ (by omega) (by omega)]; exact c2
      · show stop4 _ _ _ = _
        rw [sne _ (by omega) (by omega)]; exact c3
      · show stop4 _ _ _ = upd (upd g' _ _) _ _ _
        rw [upd_ne (by omega), upd_ne (by omega), sne _ (by omega) (by omega)]; exact c4
      · show stop4 _ _ _ = upd (upd g' _ _) _ _ _
        rw [upd_ne (by omega), upd_ne (by omega), sne _ (by omega) (by omega)]; exact c5
    · show stop4 _ _ _ = _
      unfold stop4
      rw [upd_ne (by omega), upd_ne (by omega), upd_ne (by omega), upd_ne (by omega)]
      exact ar0
    · show upd (upd g' _ _) _ _ _ = _
      rw [upd_ne (by omega), upd_eq]
    · show stop4 _ _ _ = _
      unfold stop4
      rw [upd_ne (by omega), upd_ne (by omega), upd_ne (by omega), upd_eq]
      rfl
    · exact upd_eq
    · show stop4 _ _ _ = _
      rw [if_neg (fun q => absurd q.2 (by decide))]
      unfold stop4
      rcases (show w = 0 ∨ w = 1 ∨ w = 2 by omega) with rfl | rfl | rfl
      · rw [upd_ne (by omega), upd_ne (by omega)]; exact upd_eq
      · rw [upd_ne (by omega)]; exact upd_eq
      · exact upd_eq
    · unfold stop4
      rw [upd_ne (by omega), upd_ne (by omega), upd_ne (by omega), upd_ne (by omega)]
      exact ar0
  · rw [if_neg hst] at b3
    have b5 : X2_arrive n τ S (nI h) (nI t) = some (stS S (arF f' h (tgt N t') A) st) := by
      rw [b4]
      by_cases hc : t' < N ∧ kd t' ≤ 3
      · have hA0 : A 0 = aV (stS S f' s1) h (G t' 0) := by
          rw [hA]
          unfold aE aF
          rw [if_pos hc.1, if_pos (by
            unfold hasA
            simp only [Bool.or_eq_true, Bool.and_eq_true, decide_eq_true_eq]
            rcases (show kd t' ≤ 2 ∨ kd t' = 3 by omega) with q | q
            · exact Or.inl (Or.inl (Or.inl q))
            · exact Or.inl (Or.inl (Or.inr ⟨q, by omega⟩)))]
        rw [if_pos hc, j118_eq hh hm8 hSm, if_pos (Classical.byContradiction fun q => hst ⟨hc.1, hc.2, fun ⟨o, q1, q2, q3⟩ => q ⟨o, q1, q2, by rw [show 13 * h + 10 = 13 * h + 10 + 0 from rfl, arw 0 (by omega), hA0]; exact q3⟩⟩)]
      · rw [if_neg hc]
    refine ⟨_, _, _, _, b5, b3, fun j hj => ?_, fun j hj => ?_, ⟨?_, t', 0, ht', by omega, hk8, fun q => absurd q (by decide), ar0, upd_eq, ?_, ?_, fun w hw => ?_, fun q1 _ q3 => ?_⟩, t', a1, ht', ar0⟩
    · rw [arNe _ (by omega)]
      exact a5 j (by omega) (by omega)
    · rw [upd_ne (by omega)]
      exact a6 j (by omega) (by omega) (by omega)
    · refine ⟨fun v hv => ?_, ?_, ?_, ?_, ?_⟩
      · show arF _ _ _ _ _ = upd g' _ _ _
        rw [upd_ne (by omega), arNe _ (by omega)]; exact c1 v hv
      · show arF _ _ _ _ _ = _
        rw [arNe _ (by omega)]; exact c2
      · show arF _ _ _ _ _ = _
        rw [arNe _ (by omega)]; exact c3
      · show arF _ _ _ _ _ = upd g' _ _ _
        rw [upd_ne (by omega), arNe _ (by omega)]; exact c4
      · show arF _ _ _ _ _ = upd g' _ _ _
        rw [upd_ne (by omega), arNe _ (by omega)]; exact c5
    · show arF _ _ _ _ _ = _
      rw [arNe _ (by omega)]
      exact hf1
    · show upd g' _ _ _ = _
      rw [upd_ne (by omega)]
      exact hg1
    · show arF _ _ _ _ _ = _
      rw [arw w hw]
      conv => lhs; rw [hA]
      unfold aE
      by_cases hc : t' < N
      · rw [if_pos hc, if_pos ⟨hc, rfl⟩]
        refine aF_congr hh (fun j q1 q2 => ?_)
        show f' _ = arF _ _ _ _ _
        rw [arNe _ (by omega)]
      · rw [if_neg hc, if_neg (fun q => hc q.1)]
    · have hA0 : A 0 = aV (stS S f' s1) h (G t' 0) := by
        rw [hA]
        unfold aE aF
        rw [if_pos q1, if_pos (by
          unfold hasA
          simp only [Bool.or_eq_true, Bool.and_eq_true, decide_eq_true_eq]
          rcases (show kd t' ≤ 2 ∨ kd t' = 3 by omega) with q | q
          · exact Or.inl (Or.inl (Or.inl q))
          · exact Or.inl (Or.inl (Or.inr ⟨q, by omega⟩)))]
      obtain ⟨o, r1, r2, r3⟩ := Classical.byContradiction fun q => hst ⟨q1, q3, q⟩
      exact ⟨o, r1, r2, by
        show arF _ _ _ _ (13 * h + 10 + 0) = _
        rw [arw 0 (by omega), hA0, r3]⟩
