/-! GOING ON -/
theorem bit_get : ∀ b, b < 256 → ∀ h, h < 8 → (((nI b >>> (nI h &&& 31)) &&& 1 = 1) ↔ b.testBit h = true) := by decide +kernel
theorem bit_or : ∀ b, b < 256 → ∀ h, h < 8 → (nI b ||| (1 <<< (nI h &&& 31)) = nI (b ||| 2 ^ h) ∧ b ||| 2 ^ h < 256) := by decide +kernel
theorem rEv_congr {S S' σ σ' : am_M} {m h : Nat} (hS : ∀ j, j < 13 → S' 1 (13 * h + j) = S 1 (13 * h + j)) (hσ : ∀ j, j < 8 → σ' 15 (8 * h + j) = σ 15 (8 * h + j)) (r : rEv S σ m h) : rEv S' σ' m h := by
  obtain ⟨r2, r6, r7, r8, r9⟩ := r
  refine ⟨fun v hv => ?_, ?_, ?_, ?_, ?_⟩
  · have := r2 v hv
    rw [show 13 * h + 2 + v = 13 * h + (2 + v) by omega, show 8 * h + 2 + v = 8 * h + (2 + v) by omega] at *
    rw [hS _ (by omega), hσ _ (by omega)]; exact this
  · rw [hS _ (by omega)]; exact r6
  · rw [hS _ (by omega)]; exact r7
  · rw [hS _ (by omega), hσ _ (by omega)]; exact r8
  · rw [hS _ (by omega), hσ _ (by omega)]; exact r9
theorem rHD_congr {S S' σ σ' : am_M} {N m h : Nat} {kd : Nat → Nat} {G : Nat → Nat → List Int32} (hh : h < 8) (hS : ∀ j, j < 13 → S' 1 (13 * h + j) = S 1 (13 * h + j)) (hσ : ∀ j, j < 8 → σ' 15 (8 * h + j) = σ 15 (8 * h + j)) (r : rHD S σ N m kd G h) : rHD S' σ' N m kd G h := by
  obtain ⟨r0, t, b, a1, a2, a3, a4, a5, a6, a7, a8, a9, a10⟩ := r
  refine ⟨rEv_congr hS hσ r0, t, b, a1, a2, a3, a4, ?_, ?_, ?_, ?_, fun w hw => ?_, fun q1 q2 q3 => ?_⟩
  · rw [hS _ (by omega)]; exact a5
  · rw [hσ _ (by omega)]; exact a6
  · rw [hS _ (by omega)]; exact a7
  · rw [hσ _ (by omega)]; exact a8
  · have := a9 w hw
    rw [Nat.add_assoc] at *
    rw [hS _ (by omega), this, aF_congr (S := S') (S' := S) hh (fun j _ _ => hS j (by omega))]
  · obtain ⟨o, b1, b2, b3⟩ := a10 q1 q2 q3
    exact ⟨o, b1, b2, by rw [hS _ (by omega)]; exact b3⟩
/-- a HAND that has done its STEP t, in both -/
def pend (n : Nat) (τ : Nat → Int64) (S σ : am_M) (N m : Nat) (kd nx ot : Nat → Nat) (G : Nat → Nat → List Int32) (h t : Nat) : Prop := rScr n S σ N kd nx ot G ∧ rOut τ σ N kd ∧ σ 0 3 = nI m ∧ rEv S σ m h ∧ t < N ∧ kd t ≤ 7 ∧ S 1 (13 * h + 0) = nI t ∧ σ 15 (8 * h + 0) = nI t ∧ S 1 (13 * h + 1) = 0 ∧ σ 15 (8 * h + 1) = 0
theorem pend_congr {n : Nat} {τ : Nat → Int64} {S S' σ : am_M} {N m : Nat} {kd nx ot : Nat → Nat} {G : Nat → Nat → List Int32} {h t : Nat} (hS : ∀ j, j < 13 → S' 1 (13 * h + j) = S 1 (13 * h + j)) (hc : ∀ c, 11 ≤ c → c ≤ 18 → S' c = S c) (p : pend n τ S σ N m kd nx ot G h t) : pend n τ S' σ N m kd nx ot G h t := by
  obtain ⟨p1, p2, p3, p4, p5, p6, p7, p8, p9, p10⟩ := p
  exact ⟨rScr_congr hc (fun _ _ _ => rfl) p1, p2, p3, rEv_congr hS (fun _ _ => rfl) p4, p5, p6, by rw [hS _ (by omega)]; exact p7, p8, by rw [hS _ (by omega)]; exact p9, p10⟩
/-- one HAND goes on -/
theorem pend_go (n : Nat) (hn : 2200 < n) {τ : Nat → Int64} {S σ : am_M} {N m : Nat} {kd nx ot : Nat → Nat} {G : Nat → Nat → List Int32} {h t : Nat} (hh : h < 8) (hm0 : 0 < m) (hm8 : m ≤ 8) (hSm : S 0 1 = nI m) (p : pend n τ S σ N m kd nx ot G h t) :
    ∃ (f st g st' : Nat → Int32), X2_arrive n τ S (nI h) (jat 40 (S 13) (X2_get S (nI h) 0)) = some (stS S f st) ∧ X8_goOn n σ (nI h) = some (stM σ g st') ∧ owC f (S 1) h ∧ owM g (σ 15) h ∧ rHD (stS S f st) (stM σ g st') N m kd G h ∧ ∃ t', t < t' ∧ t' ≤ N ∧ f (13 * h + 0) = tgt N t' := by
  obtain ⟨p1, p2, p3, p4, p5, p6, p7, p8, p9, p10⟩ := p
  obtain ⟨hN4, hN, hN2, hstp⟩ := p1
  obtain ⟨-, ⟨b1, b2, b3⟩, -, -, e, -⟩ := hstp t p5
  obtain ⟨f, st, g, st', c1, c2, c3, c4, c5, t', c6, c7, c8⟩ := come_both n hn (t := nx t) ⟨hN4, hN, hN2, hstp⟩ hh p2 hm0 hm8 hSm p3 b2 p4 p9 p10
  refine ⟨f, st, g, st', ?_, ?_, c3, c4, c5, t', by omega, c7, c8⟩
  · rw [X2_g0 hh, p7, jat_nI (by omega) (by omega), b3]
    exact c1
  · unfold X8_goOn
    rw [X8_o0 hh]
    dsimp only [Option.bind]
    rw [p8, e (by omega)]
    dsimp only [Option.bind]
    rw [c2]
theorem stS_0 {S : am_M} {f st : Nat → Int32} : stS S f st 0 = S 0 := rfl
/-- all that have done their STEP go on -/
theorem goOn_loop (n : Nat) (hn : 2200 < n) {τ : Nat → Int64} {S : am_M} {N m b : Nat} {kd nx ot : Nat → Nat} {G : Nat → Nat → List Int32} (hm0 : 0 < m) (hm8 : m ≤ 8) (hSm : S 0 1 = nI m) (hb : b < 256) (hSb : S 0 15 = nI b) : ∀ (k i K : Nat) (f st : Nat → Int32), i + k = m → k < K → (∀ h, i ≤ h → h < m → b.testBit h = true → ∃ σ t, pend n τ (stS S f st) σ N m kd nx ot G h t) →
    ∃ f' st', X2_goOn_L2 n τ K (stS S f st) (nI i) = some (sC (stS S f' st') 0 (am_u (S 0) 15 0)) ∧ (∀ p, (∀ h, i ≤ h → h < m → b.testBit h = true → ¬ (13 * h ≤ p ∧ p < 13 * h + 13)) → f' p = f p) ∧ ∀ h, i ≤ h → h < m → b.testBit h = true → ∀ σ t, pend n τ (stS S f st) σ N m kd nx ot G h t → ∃ g s, X8_goOn n σ (nI h) = some (stM σ g s) ∧ owM g (σ 15) h ∧ rHD (stS S f' st') (stM σ g s) N m kd G h ∧ ∃ t', t < t' ∧ t' ≤ N ∧ f' (13 * h + 0) = tgt N t' := by
  intro k
  induction k with
  | zero =>
    intro i K f st hi hK hp
    obtain ⟨K, rfl⟩ : ∃ J, K = J + 1 := ⟨K - 1, by omega⟩
    refine ⟨f, st, ?_, fun p _ => rfl, fun h h1 h2 => by omega⟩
    simp only [X2_goOn_L2, X2_goOn_B2]
    rw [stS_0, hSm, if_pos (by rw [pu_le (by omega) (by omega)]; omega)]
  | succ k ih =>
    intro i K f st hi hK hp
    obtain ⟨K, rfl⟩ : ∃ J, K = J + 1 := ⟨K - 1, by omega⟩
    simp only [X2_goOn_L2, X2_goOn_B2, X2_goOn_J43]
    rw [stS_0, hSm, hSb, if_neg (by rw [pu_le (by omega) (by omega)]; omega), nI_1]
    by_cases hbi : b.testBit i = true
    · rw [if_pos ((bit_get b hb i (by omega)).mpr hbi)]
      obtain ⟨σ0, t0, p0⟩ := hp i (Nat.le_refl _) (by omega) hbi
      obtain ⟨f1, st1, g1, s1, c1, c2, c3, c4, c5, c6⟩ := pend_go n hn (by omega) hm0 hm8 (S := stS S f st) hSm p0
      rw [stS_stS] at c1 c5
      rw [c1]
      dsimp only [Option.bind]
      have frame : ∀ h, i < h → h < m → ∀ j, j < 13 → f1 (13 * h + j) = f (13 * h + j) := fun h h1 h2 j hj => c3 (13 * h + j) (by omega)
      have tr : ∀ h, i < h → h < m → ∀ σ t, pend n τ (stS S f st) σ N m kd nx ot G h t → pend n τ (stS S f1 st1) σ N m kd nx ot G h t := fun h h1 h2 σ t p => pend_congr (S := stS S f st) (frame h h1 h2) (fun c q1 q2 => by
        simp only [stS, sC_app]
        rw [if_neg (by omega), if_neg (by omega), if_neg (by omega), if_neg (by omega)]) p
      obtain ⟨f', st', d1, d2, d3⟩ := ih (i + 1) K f1 st1 (by omega) (by omega) (fun h h1 h2 h3 => by
        obtain ⟨σ, t, p⟩ := hp h (by omega) h2 h3
        exact ⟨σ, t, tr h (by omega) h2 σ t p⟩)
      refine ⟨f', st', d1, fun p hpp => ?_, fun h h1 h2 h3 σ t p => ?_⟩
      · rw [d2 p (fun h h1 h2 h3 => hpp h (by omega) h2 h3)]
        exact c3 p (hpp i (Nat.le_refl _) (by omega) hbi)
      · by_cases e : h = i
        · subst e
          obtain ⟨f2, st2, g2, s2, e1, e2, e3, e4, e5, t', e6, e7, e8⟩ := pend_go n hn (by omega) hm0 hm8 (S := stS S f st) hSm p
          rw [stS_stS] at e1 e5
          rw [c1] at e1
          have e9 : stS S f1 st1 1 = stS S f2 st2 1 := by
            rw [Option.some.inj e1]
          have e9' : f1 = f2 := e9
          subst e9'
          have ff : ∀ j, j < 13 → f' (13 * h + j) = f1 (13 * h + j) := fun j hj => d2 _ (fun h' q1 q2 q3 => by omega)
          exact ⟨g2, s2, e2, e4, rHD_congr (S := stS S f1 st2) (by omega) ff (fun _ _ => rfl) e5, t', e6, e7, by rw [ff _ (by omega)]; exact e8⟩
        · exact d3 h (by omega) h2 h3 σ t (tr h (by omega) h2 σ t p)
    · rw [if_neg (fun q => hbi ((bit_get b hb i (by omega)).mp q))]
      obtain ⟨f', st', d1, d2, d3⟩ := ih (i + 1) K f st (by omega) (by omega) (fun h h1 h2 h3 => hp h (by omega) h2 h3)
      refine ⟨f', st', d1, fun p hpp => d2 p (fun h h1 h2 h3 => hpp h (by omega) h2 h3), fun h h1 h2 h3 σ t p => ?_⟩
      by_cases e : h = i
      · subst e; exact absurd h3 hbi
      · exact d3 h (by omega) h2 h3 σ t p
theorem goOn_cl (n : Nat) (hn : 2200 < n) {τ : Nat → Int64} {S : am_M} {N m b : Nat} {kd nx ot : Nat → Nat} {G : Nat → Nat → List Int32} (hm0 : 0 < m) (hm8 : m ≤ 8) (hSm : S 0 1 = nI m) (hb : b < 256) (hSb : S 0 15 = nI b) (hp : ∀ h, h < m → b.testBit h = true → ∃ σ t, pend n τ S σ N m kd nx ot G h t) :
    ∃ f' st', X2_goOn n τ S = some (sC (stS S f' st') 0 (am_u (S 0) 15 0)) ∧ (∀ p, (∀ h, h < m → b.testBit h = true → ¬ (13 * h ≤ p ∧ p < 13 * h + 13)) → f' p = S 1 p) ∧ ∀ h, h < m → b.testBit h = true → ∀ σ t, pend n τ S σ N m kd nx ot G h t → ∃ g s, X8_goOn n σ (nI h) = some (stM σ g s) ∧ owM g (σ 15) h ∧ rHD (stS S f' st') (stM σ g s) N m kd G h ∧ ∃ t', t < t' ∧ t' ≤ N ∧ f' (13 * h + 0) = tgt N t' := by
  obtain ⟨f', st', d1, d2, d3⟩ := goOn_loop n hn (τ := τ) (N := N) (kd := kd) (nx := nx) (ot := ot) (G := G) hm0 hm8 hSm hb hSb m 0 n (S 1) (S 7) (by omega) (by omega) (fun h _ h2 h3 => by rw [stS_self]; exact hp h h2 h3)
  rw [stS_self] at d1 d3
  exact ⟨f', st', d1, fun p h => d2 p (fun q _ => h q), fun h => d3 h (Nat.zero_le _)⟩
