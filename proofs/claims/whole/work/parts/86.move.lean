/-! A MOVE: both sides -/
theorem get0_eq {S : am_M} {h : Nat} {k : Int32} (e : dg S h = k) : X2_doing S (nI h) = k := e
theorem move_cl (n : Nat) {S : am_M} {h k : Nat} {src : Int32} (hk : k < 8) (e : X2_doing (S00 S) (nI h) = nI k) : X2_move n S (nI h) src = (if k = 0 then (X2_hasRoom n (S00 S) (nI h)).bind (fun q2 => if q2 = true then (X2_lay n (S00 S) (nI h) 0).bind (fun q4 => some q4) else (X2_handOver (S00 S) (nI h)).bind (fun q5 => some q5)) else if k = 1 then (X2_handOver (S00 S) (nI h)).bind (fun q7 => some q7) else if k = 2 then (X2_lay n (S00 S) (nI h) 1).bind (fun q9 => some q9) else if k = 3 then (X2_take n (S00 S) (nI h) (X2_get (S00 S) (nI h) 10)).bind (fun q11 => some q11) else if k = 4 then (X2_take n (S00 S) (nI h) src).bind (fun q13 => some q13) else if k = 5 then (X2_raise (S00 S) (nI h) (jat 8 (S 10) (nI h))).bind (fun q15 => (X2_tick q15 (nI h) 1).bind (fun q16 => (X2_hasDone q16 (nI h)).bind (fun q17 => some q17))) else (X2_goTogether n (S00 S) (nI k)).bind (fun q18 => some q18)) := by
  unfold X2_move
  rw [show sC S 0 (am_u (S 0) 12 (-1)) = S00 S from rfl, e]
  rcases (show k = 0 ∨ k = 1 ∨ k = 2 ∨ k = 3 ∨ k = 4 ∨ k = 5 ∨ k = 6 ∨ k = 7 by omega) with rfl | rfl | rfl | rfl | rfl | rfl | rfl | rfl <;> rfl
theorem move_rf (n : Nat) {σ : am_M} {h t k : Nat} {src : Int32} (hh : h < 8) (ht : t < 40) (hk : k < 8) (e1 : σ 15 (8 * h + 0) = nI t) (e2 : σ 6 t = nI k) : X8_move n σ (nI h) src = (if k = 0 then (X8_asked n (M00 σ) (nI h) 0).bind (fun q4 => (X8_sent n q4.2 (nI h) q4.1).bind (fun q5 => if (q4.2 0 4) ≤ q5 then (X8_handOver n q4.2 (nI h)).bind (fun q7 => some q7) else (X8_lay n q4.2 (nI h) 0).bind (fun q8 => (X8_goOn n (sC q8 17 (upd (q8 17) h ((q8 17 h) + 1))) (nI h)).bind (fun q11 => some q11)))) else if k = 1 then (X8_handOver n (M00 σ) (nI h)).bind (fun q13 => some q13) else if k = 2 then (X8_lay n (M00 σ) (nI h) 1).bind (fun q15 => (X8_goOn n (sC q15 17 (upd (q15 17) h ((q15 17 h) + 1))) (nI h)).bind (fun q18 => some q18)) else if k = 3 then (X8_asked n (M00 σ) (nI h) 0).bind (fun q20 => (X8_asked n q20.2 (nI h) 1).bind (fun q21 => (X8_lying n q21.2 q20.1 (nI h) q21.1).bind (fun q22 => (X8_take n q21.2 (nI h) q20.1 q22).bind (fun q23 => some q23)))) else if k = 4 then (X8_asked n (M00 σ) (nI h) 1).bind (fun q25 => (X8_lying n q25.2 src (nI h) q25.1).bind (fun q26 => (X8_noteAny q25.2 (nI h) src).bind (fun q27 => (X8_take n q27 (nI h) src q26).bind (fun q28 => some q28)))) else if k = 5 then (X8_upTo (M00 σ) (nI h) (σ 19 h)).bind (fun q31 => (X8_goOn n (sC q31 17 (upd (q31 17) h ((q31 17 h) + 1))) (nI h)).bind (fun q34 => some q34)) else (X8_together n (M00 σ) (nI k)).bind (fun q36 => some q36)) := by
  unfold X8_move
  rw [X8_o0 hh, e1]
  dsimp only [Option.bind]
  rw [if_neg (pu_g (n := 80) (by omega) (by omega)), nI_clamp (by omega), e2, show sC σ 0 (am_u (σ 0) 40 (-1)) = M00 σ from rfl]
  rw [nI_clamp (n := h) (by omega)]
  have g : ¬ (nI h < 0 ∨ 8 ≤ h) := by
    intro q
    rcases q with q | q
    · exact pu_nlt0 (by omega) q
    · omega
  have g8 : ¬ (nI t < 0 ∨ 80 ≤ t) := by
    intro q
    rcases q with q | q
    · exact pu_nlt0 (by omega) q
    · omega
  simp only [if_neg g]
  try simp only [if_neg g8]
  rcases (show k = 0 ∨ k = 1 ∨ k = 2 ∨ k = 3 ∨ k = 4 ∨ k = 5 ∨ k = 6 ∨ k = 7 by omega) with rfl | rfl | rfl | rfl | rfl | rfl | rfl | rfl <;> rfl
theorem move_both (n : Nat) (hn : 2200 < n) {τ : Nat → Int64} {S σ : am_M} {N m h M : Nat} {c src : Int32} {kd nx ot : Nat → Nat} {G : Nat → Nat → List Int32} (hb : rB n τ S σ N m kd nx ot G) (hq : rQ S σ N m kd G M) (hg : S 0 15 = 0) (hz : zr σ m) (hMs : M ≤ sumF (ph S N) m) (hh : h < m) (hc : CN n S m M h c src) (hsrc : dg S h = 4 → ∃ o, o < m ∧ src = nI o) :
    ∃ S1 S' σ' M', X2_move n S (nI h) src = some S1 ∧ X2_goOn n τ S1 = some S' ∧ X8_move n σ (nI h) src = some σ' ∧ mvd n τ S σ S' σ' N m kd nx ot G M M' := by
  have m8 := hb.2.2.2.1
  have hN4 := hb.1.1
  have hb0 := rB_00 hb
  have hq0 := rQ_00 m8 hq
  rcases hd_cases hb hh (hq.1 h hh) with hi | ⟨t, ha⟩
  · exact absurd hc (CN_idle hi.1)
  have ha0 := act_00 (show h < 8 by omega) ha
  obtain ⟨a0, a1, a2, a3, a4, a5, a6, a7, a8, a9⟩ := ha
  have hkt := ((hb.1.2.2.2 t a1).1).2.2
  have hcl := move_cl n (src := src) a2 (get0_eq ha0.2.2.2.2.2.2.2.1)
  have hrf := move_rf n (σ := σ) (src := src) (show h < 8 by omega) (by omega) a2 a4 hkt
  have ha : act S σ N m kd G h t := ⟨a0, a1, a2, a3, a4, a5, a6, a7, a8, a9⟩
  have hM16 : sC (M00 σ) 16 (M00 σ 16) = M00 σ := sC_self _ _
  have hr10 : ∀ f, S00 S 1 f = S 1 f := fun _ => rfl
  have hfirst : ∀ (o : Nat) (s : Nat → Int32), o < m → LY S M (nI (8 * o + h)) (S 1 (13 * h + 11)) → ∃ a, a < M ∧ fiW (am_sub S 2) (nI (8 * o + h)) (S 1 (13 * h + 11)) 0 M = nI a ∧ X8_lying n (sC (M00 σ) 16 s) (nI o) (nI h) (S 1 (13 * h + 11)) = some (nI a) := by
    intro o s ho hl
    obtain ⟨a, q1, q2, q3, -⟩ := fiW_some M 0 hl
    refine ⟨a, by omega, q3, ?_⟩
    have := (lying_first n (am_sub S 2) (sC (M00 σ) 16 s) M hq.2.1 o h (by omega) (by omega) (S 1 (13 * h + 11)) (by omega)).1
    rw [this, q3]
  rcases (show kd t = 0 ∨ kd t = 1 ∨ kd t = 2 ∨ kd t = 3 ∨ kd t = 4 ∨ kd t = 5 ∨ (kd t = 6 ∨ kd t = 7) by omega) with k | k | k | k | k | k | k
  · rw [k, if_pos rfl] at hcl hrf
    obtain ⟨o, ho, hoh, ef⟩ := a9 (by omega)
    obtain ⟨s1, e1⟩ := askR0 n hn hb0 hh ha0 (by omega) (M00 σ 16)
    rw [hM16] at e1
    obtain ⟨b, f1, f2⟩ := hasRoom_eq n hn hq0.2.1 (show h < 8 by omega) (show o < 8 by omega) ef
    obtain ⟨v, v1, v2⟩ := sent_eq n (am_sub S 2) (sC (M00 σ) 16 s1) M hq.2.1 h o (by omega) (by omega) (by omega)
    rw [f1] at hcl
    rw [e1] at hrf
    dsimp only [Option.bind] at hcl hrf
    rw [hr10, ef, v1] at hrf
    dsimp only at hrf
    have hRM : RM n (S00 S) h ↔ v < S 0 2 := by
      unfold RM
      rw [hr10, ef, show am_sub (S00 S) 2 = am_sub S 2 from am_sub_eq (fun c hc => sC_ne (by omega)), v2]
      exact ⟨fun ⟨w, q1, q2⟩ => by rw [Option.some.inj q1]; exact q2, fun q => ⟨v, rfl, q⟩⟩
    have h04 : (sC (M00 σ) 16 s1) 0 4 = S 0 2 := hb.2.2.2.2.2.2.symm
    by_cases hr : v < S 0 2
    · have hb1 : b = true := f2.mpr (hRM.mpr hr)
      rw [hb1, if_pos rfl] at hcl
      rw [if_neg (show ¬ (sC (M00 σ) 16 s1) 0 4 ≤ v by rw [h04]; exact Int32.not_le.mpr hr)] at hrf
      obtain ⟨S1, S', σ2, σ', w1, w2, w3, w4, w5⟩ := mv_lay n hn hb hq hg hz hMs hh ha (by omega) (be := 0) (by omega) s1
      rw [nI_0] at w1 w3
      rw [w1] at hcl
      rw [w3] at hrf
      dsimp only at hcl hrf
      rw [w4] at hrf
      exact ⟨S1, S', σ', M + 1, hcl, w2, hrf, w5⟩
    · have hb1 : b = false := Bool.eq_false_iff.mpr (fun q => hr (hRM.mp (f2.mp q)))
      rw [hb1, if_neg (by decide)] at hcl
      rw [if_pos (show (sC (M00 σ) 16 s1) 0 4 ≤ v by rw [h04]; exact Int32.not_lt.mp hr)] at hrf
      have hmt : MT S M h c := by
        rcases (CN_0 (by rw [a7, k]; rfl)).mp hc with q | q
        · refine absurd ?_ hr
          obtain ⟨w, q1, q2⟩ := q
          rw [ef, v2] at q1
          rw [Option.some.inj q1]; exact q2
        · exact q
      obtain ⟨S1, S', σ', w1, w2, w3, w4⟩ := mv_hand n hn hb hq hg hz hh ha (by omega) hmt s1
      rw [w1] at hcl
      rw [w3] at hrf
      exact ⟨S1, S', σ', M, hcl, w2, hrf, w4⟩
  · rw [k, if_neg (by decide), if_pos rfl] at hcl hrf
    obtain ⟨S1, S', σ', w1, w2, w3, w4⟩ := mv_hand n hn hb hq hg hz hh ha (by omega) ((CN_1 (by rw [a7, k]; rfl)).mp hc) (M00 σ 16)
    rw [hM16] at w3
    rw [w1] at hcl
    rw [w3] at hrf
    exact ⟨S1, S', σ', M, hcl, w2, hrf, w4⟩
  · rw [k, if_neg (by decide), if_neg (by decide), if_pos rfl] at hcl hrf
    obtain ⟨S1, S', σ2, σ', w1, w2, w3, w4, w5⟩ := mv_lay n hn hb hq hg hz hMs hh ha (by omega) (be := 1) (by omega) (M00 σ 16)
    rw [hM16] at w3
    rw [show nI 1 = 1 from rfl] at w1 w3
    rw [w1] at hcl
    rw [w3] at hrf
    dsimp only [Option.bind] at hcl hrf
    rw [w4] at hrf
    exact ⟨S1, S', σ', M + 1, hcl, w2, hrf, w5⟩
  · rw [k, if_neg (by decide), if_neg (by decide), if_neg (by decide), if_pos rfl] at hcl hrf
    obtain ⟨o, ho, hoh, ef⟩ := a9 (by omega)
    obtain ⟨o', q1, q2, q3⟩ := (CN_3 (by rw [a7, k]; rfl)).mp hc
    have : o' = o := by rw [ef] at q2; exact ((nI_eq (by omega) (by omega)).mp q2).symm
    subst this
    obtain ⟨s1, e1⟩ := askR0 n hn hb0 hh ha0 (by omega) (M00 σ 16)
    rw [hM16] at e1
    obtain ⟨s2, e2⟩ := askR1 n hn hb0 hh ha0 (by omega) s1
    obtain ⟨a, z1, z2, z3⟩ := hfirst o' s2 ho q3
    obtain ⟨S1, S', σ', w1, w2, w3, w4⟩ := mv_take n hn (T := sC (M00 σ) 16 s2) hb hq hg hz hh ha (Or.inl k) ho z1 z2 (fun c h0 h1 => by rw [sC_ne h1]; exact sC_ne h0) (fun f hf => am_u_ne (by omega)) ⟨fun q => by omega, fun _ => rfl⟩
    rw [X2_g10 (by omega), hr10, ef, w1] at hcl
    rw [e1] at hrf
    dsimp only [Option.bind] at hcl hrf
    rw [e2] at hrf
    dsimp only at hrf
    rw [hr10, hr10, ef, z3] at hrf
    dsimp only at hrf
    rw [w3] at hrf
    exact ⟨S1, S', σ', M - 1, hcl, w2, hrf, w4⟩
  · rw [k, if_neg (by decide), if_neg (by decide), if_neg (by decide), if_neg (by decide), if_pos rfl] at hcl hrf
    obtain ⟨o, ho, eo⟩ := hsrc (by rw [a7, k]; rfl)
    obtain ⟨o', q1, q2, q3, q4, q5⟩ := (CN_4 (by rw [a7, k]; rfl)).mp hc
    have : o' = o := by rw [eo] at q2; exact ((nI_eq (by omega) (by omega)).mp q2).symm
    subst this
    obtain ⟨s1, e1⟩ := askR1 n hn hb0 hh ha0 (by omega) (M00 σ 16)
    rw [hM16] at e1
    obtain ⟨a, z1, z2, z3⟩ := hfirst o' s1 ho q5
    obtain ⟨T, hT⟩ : ∃ T, T = sC (sC (M00 σ) 16 s1) 0 (am_u (am_u (am_u ((sC (M00 σ) 16 s1) 0) 40 (nI h)) 41 (nI o')) 42 (nI t)) := ⟨_, rfl⟩
    obtain ⟨S1, S', σ', w1, w2, w3, w4⟩ := mv_take n hn (T := T) hb hq hg hz hh ha (Or.inr k) ho z1 z2 (fun c h0 h1 => by rw [hT, sC_ne h0, sC_ne h1]; exact sC_ne h0) (fun f hf => by
      rw [hT]
      show am_u (am_u (am_u (am_u (σ 0) 40 (-1)) 40 (nI h)) 41 (nI o')) 42 (nI t) f = _
      rw [am_u_ne (by omega), am_u_ne (by omega), am_u_ne (by omega), am_u_ne (by omega)]) ⟨fun _ => by rw [hT]; exact ⟨rfl, rfl, rfl⟩, fun q => absurd k q⟩
    have hna : X8_noteAny (sC (M00 σ) 16 s1) (nI h) (nI o') = some T := by
      unfold X8_noteAny
      rw [X8_o0 (by omega), hT]
      dsimp only [Option.bind]
      rw [show (sC (sC (M00 σ) 16 s1) 0 (am_u (am_u ((sC (M00 σ) 16 s1) 0) 40 (nI h)) 41 (nI o'))) 15 (8 * h + 0) = nI t from a4]
    rw [eo] at hcl hrf ⊢
    rw [w1] at hcl
    rw [e1] at hrf
    dsimp only [Option.bind] at hcl hrf
    rw [hr10, z3] at hrf
    dsimp only at hrf
    rw [hna] at hrf
    dsimp only at hrf
    rw [w3] at hrf
    exact ⟨S1, S', σ', M - 1, hcl, w2, hrf, w4⟩
  · rw [k, if_neg (by decide), if_neg (by decide), if_neg (by decide), if_neg (by decide), if_neg (by decide), if_pos rfl] at hcl hrf
    obtain ⟨S1, S', σ', w1, w2, w3, w4⟩ := mv_done n hn hb hq hg hz hh ha
    rw [w1] at hcl
    have hrf2 : X8_move n σ (nI h) src = (X8_upTo (M00 σ) (nI h) (σ 19 h)).bind (fun q31 => X8_goOn n (sC q31 17 (upd (q31 17) h (q31 17 h + 1))) (nI h)) := by
      rw [hrf]
      congr 1
      funext q
      cases X8_goOn n (sC q 17 (upd (q 17) h (q 17 h + 1))) (nI h) <;> rfl
    rw [w3] at hrf2
    exact ⟨S1, S', σ', M, hcl, w2, hrf2, w4⟩
  · have key : (∀ j, j < m → ∃ u, act S σ N m kd G j u ∧ kd u = kd t) := by
      have : h = 0 ∧ ∀ j, j < m → dg S j = nI (kd t) := by
        rcases k with k | k
        · rw [k]; exact (CN_6 (by rw [a7, k]; rfl)).mp hc
        · rw [k]; exact (CN_7 (by rw [a7, k]; rfl)).mp hc
      intro j hj
      have e := this.2 j hj
      rcases hd_cases hb hj (hq.1 j hj) with hi | ⟨u, hu⟩
      · rw [hi.1] at e
        exact absurd e.symm (pu_ne1 (by omega))
      · refine ⟨u, hu, ?_⟩
        have e2 := hu.2.2.2.2.2.2.2.1
        have := hu.2.2.1
        rw [e] at e2
        exact ((nI_eq (by omega) (by omega)).mp e2).symm
    obtain ⟨S1, S', σ', w1, w2, w3, w4⟩ := mv_tog n hn hb hq hg hz k key
    have k0 : kd t ≠ 0 ∧ kd t ≠ 1 ∧ kd t ≠ 2 ∧ kd t ≠ 3 ∧ kd t ≠ 4 ∧ kd t ≠ 5 := by omega
    rw [if_neg k0.1, if_neg k0.2.1, if_neg k0.2.2.1, if_neg k0.2.2.2.1, if_neg k0.2.2.2.2.1, if_neg k0.2.2.2.2.2] at hcl hrf
    rw [w1] at hcl
    rw [w3] at hrf
    exact ⟨S1, S', σ', M, hcl, w2, hrf, w4⟩
theorem rB_16 {n : Nat} {τ : Nat → Int64} {S σ : am_M} {N m : Nat} {kd nx ot : Nat → Nat} {G : Nat → Nat → List Int32} {st : Nat → Int32} (b : rB n τ S σ N m kd nx ot G) : rB n τ S (sC σ 16 st) N m kd nx ot G := rB_congr (S := S) (σ := σ) (fun _ _ _ => rfl) rfl rfl (fun c _ _ => sC_ne (by omega)) rfl rfl b
theorem rQ_16 {S σ : am_M} {N m M : Nat} {kd : Nat → Nat} {G : Nat → Nat → List Int32} {st : Nat → Int32} (m8 : m ≤ 8) (q : rQ S σ N m kd G M) : rQ S (sC σ 16 st) N m kd G M := rQ_congr m8 rfl (fun _ _ _ => rfl) rfl q
theorem mvd_16 {n : Nat} {τ : Nat → Int64} {S σ S' σ' : am_M} {N m M M' : Nat} {kd nx ot : Nat → Nat} {G : Nat → Nat → List Int32} {st : Nat → Int32} (h : mvd n τ S (sC σ 16 st) S' σ' N m kd nx ot G M M') : mvd n τ S σ S' σ' N m kd nx ot G M M' := by
  obtain ⟨h1, h2, h3, h4, h5, h6, h7, h8, h9, h10, h11, h12⟩ := h
  exact ⟨h1, h2, h3, h4, h5, h6, h7, h8, h9, fun c q1 q2 => by rw [h10 c q1 q2]; exact sC_ne (by omega), h11, h12⟩
theorem move_16 (n : Nat) (hn : 2200 < n) {τ : Nat → Int64} {S σ : am_M} {N m h M : Nat} {c src : Int32} {kd nx ot : Nat → Nat} {G : Nat → Nat → List Int32} (hb : rB n τ S σ N m kd nx ot G) (hq : rQ S σ N m kd G M) (hg : S 0 15 = 0) (hz : zr σ m) (hMs : M ≤ sumF (ph S N) m) (hh : h < m) (hc : CN n S m M h c src) (hsrc : dg S h = 4 → ∃ o, o < m ∧ src = nI o) (st : Nat → Int32) :
    ∃ S1 S' σ' M', X2_move n S (nI h) src = some S1 ∧ X2_goOn n τ S1 = some S' ∧ X8_move n (sC σ 16 st) (nI h) src = some σ' ∧ mvd n τ S σ S' σ' N m kd nx ot G M M' := by
  obtain ⟨S1, S', σ', M', w1, w2, w3, w4⟩ := move_both n hn (rB_16 (st := st) hb) (rQ_16 hb.2.2.2.1 hq) hg hz hMs hh hc hsrc
  exact ⟨S1, S', σ', M', w1, w2, w3, mvd_16 w4⟩
