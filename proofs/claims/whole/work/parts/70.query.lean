/-! WHAT IS ASKED OF A STATE -/
def rB (n : Nat) (τ : Nat → Int64) (S σ : am_M) (N m : Nat) (kd nx ot : Nat → Nat) (G : Nat → Nat → List Int32) : Prop := rScr n S σ N kd nx ot G ∧ rOut τ σ N kd ∧ 2 ≤ m ∧ m ≤ 8 ∧ S 0 1 = nI m ∧ σ 0 3 = nI m ∧ S 0 2 = σ 0 4
def rQ (S σ : am_M) (N m : Nat) (kd : Nat → Nat) (G : Nat → Nat → List Int32) (M : Nat) : Prop := (∀ h, h < m → rHD S σ N m kd G h) ∧ rW (am_sub S 2) σ M ∧ ∀ k, k < M → σ 15 (65 + 6 * k + 0) ≠ σ 15 (65 + 6 * k + 1)
def dg (S : am_M) (h : Nat) : Int32 := X2_doing S (nI h)
/-- a HAND that is at a STEP t and neither stopped nor ended -/
def act (S σ : am_M) (N m : Nat) (kd : Nat → Nat) (G : Nat → Nat → List Int32) (h t : Nat) : Prop := rEv S σ m h ∧ t < N ∧ kd t < 8 ∧ S 1 (13 * h + 0) = nI t ∧ σ 15 (8 * h + 0) = nI t ∧ S 1 (13 * h + 1) = 0 ∧ σ 15 (8 * h + 1) = 0 ∧ dg S h = nI (kd t) ∧ (∀ w, w < 3 → S 1 (13 * h + 10 + w) = aF S h kd G t w) ∧ (kd t ≤ 3 → ∃ o, o < m ∧ o ≠ h ∧ S 1 (13 * h + 10) = nI o)
def idle (S σ : am_M) (h : Nat) : Prop := dg S h = -1 ∧ (σ 15 (8 * h + 0) = -1 ∨ (∃ t : Nat, t < 40 ∧ σ 15 (8 * h + 0) = nI t ∧ S 1 (13 * h + 1) = 1 ∧ σ 15 (8 * h + 1) = 1))
theorem kindOf_m1 {S : am_M} : X3_kindOf (am_sub S 11) (-1) = -1 := by
  unfold X3_kindOf
  rw [if_pos (by decide)]
theorem hd_cases {n : Nat} {τ : Nat → Int64} {S σ : am_M} {N m h : Nat} {kd nx ot : Nat → Nat} {G : Nat → Nat → List Int32} (hb : rB n τ S σ N m kd nx ot G) (hh : h < m) (hd : rHD S σ N m kd G h) : idle S σ h ∨ ∃ t, act S σ N m kd G h t := by
  obtain ⟨⟨hN4, hN, hN2, hst⟩, ho, m2, m8, e1, e2, e3⟩ := hb
  obtain ⟨r0, t, b, a1, a2, a3, a4, a5, a6, a7, a8, a9, a10⟩ := hd
  have hH : X2_isHand S (nI h) = true := by rw [X2_isHand_eq e1 m8 (by omega), decide_eq_true hh]
  rcases (show b = 0 ∨ b = 1 by omega) with rfl | rfl
  · by_cases htN : t < N
    · refine Or.inr ⟨t, r0, htN, a3 htN, ?_, ?_, a7, a8, ?_, fun w hw => ?_, fun q => a10 htN rfl q⟩
      · rw [a5]; exact if_neg (by omega)
      · rw [a6]; exact if_neg (by omega)
      · unfold dg X2_doing
        rw [if_pos hH, X2_g1 (by omega), a7, if_neg (by decide), X2_g0 (by omega), a5, show tgt N t = nI t from if_neg (by omega)]
        obtain ⟨⟨k1, k2, k3⟩, -⟩ := hst t htN
        exact kindOf_eq hN hN4 htN k2
      · rw [a9 w hw, if_pos ⟨htN, rfl⟩]
    · refine Or.inl ⟨?_, Or.inl ?_⟩
      · unfold dg X2_doing
        rw [if_pos hH, X2_g1 (by omega), a7, if_neg (by decide), X2_g0 (by omega), a5, show tgt N t = -1 from if_pos (by omega)]
        exact kindOf_m1
      · rw [a6]; exact if_pos (by omega)
  · have htN := a4 rfl
    refine Or.inl ⟨?_, Or.inr ⟨t, by omega, ?_, a7, a8⟩⟩
    · unfold dg X2_doing
      rw [if_pos hH, X2_g1 (by omega), a7, if_pos (by decide)]
    · rw [a6]; exact if_neg (by omega)
theorem isAt_eq {n : Nat} {τ : Nat → Int64} {S σ : am_M} {N m h k : Nat} {kd nx ot : Nat → Nat} {G : Nat → Nat → List Int32} {st : Nat → Int32} (hb : rB n τ S σ N m kd nx ot G) (hh : h < m) (hd : rHD S σ N m kd G h) (hk : k ≤ 10) : X8_isAt (sC σ 16 st) (nI h) (nI k) = some (decide (dg S h = nI k)) := by
  have m8 := hb.2.2.2.1
  have hN4 := hb.1.1
  unfold X8_isAt
  rw [X8_o0 (by omega), X8_o1 (by omega)]
  show (if σ 15 (8 * h + 0) = -1 then some false else (if σ 15 (8 * h + 1) = 0 then (if σ 15 (8 * h + 0) < 0 ∨ 80 ≤ (σ 15 (8 * h + 0)).toNatClampNeg then none else (if σ 6 (σ 15 (8 * h + 0)).toNatClampNeg = nI k then (some true) else (some false))) else (some false))) = _
  rcases hd_cases hb hh hd with ⟨q1, q2⟩ | ⟨t, q0, q1, q2, q3, q4, q5, q6, q7, -⟩
  · rw [q1, decide_eq_false (fun q => pu_ne1 (by omega) q.symm)]
    rcases q2 with q2 | ⟨t, q2, q3, q4, q5⟩
    · rw [q2, if_pos rfl]
    · rw [q3, q5, if_neg (pu_ne1 (by omega)), if_neg (by decide)]
  · obtain ⟨⟨k1, k2, k3⟩, -⟩ := hb.1.2.2.2 t q1
    rw [q4, q6, if_neg (pu_ne1 (by omega)), if_pos rfl, if_neg (pu_g (n := 80) (by omega) (by omega)), nI_clamp (by omega), k3, q7]
    by_cases e : nI (kd t) = nI k
    · rw [if_pos e, decide_eq_true e]
    · rw [if_neg e, decide_eq_false e]
theorem askR (n : Nat) (hn : 2200 < n) {τ : Nat → Int64} {S σ : am_M} {N m h t w : Nat} {kd nx ot : Nat → Nat} {G : Nat → Nat → List Int32} (hb : rB n τ S σ N m kd nx ot G) (hh : h < m) (ha : act S σ N m kd G h t) (hw : w < 3) (hA : hasA (kd t) w = true) (st : Nat → Int32) : ∃ st', X8_asked n (sC σ 16 st) (nI h) (nI (mkA (kd t) w)) = some (S 1 (13 * h + 10 + w), sC σ 16 st') := by
  obtain ⟨q0, q1, q2, q3, q4, q5, q6, q7, q8, -⟩ := ha
  have m8 := hb.2.2.2.1
  have hN4 := hb.1.1
  obtain ⟨-, -, -, d, -⟩ := hb.1.2.2.2 t q1
  have hm3 : mkA (kd t) w < 3 := by unfold mkA; split <;> omega
  obtain ⟨st', e⟩ := ask_md n hn (S := S) (σ := sC σ 16 st) (m := m) (h := h) (s := t) (w := w) (k := mkA (kd t) w) (L := G t w) (by omega) hm3 (by omega) q0 hb.2.2.2.2.2.1 q4 ((d w hw).1 hA)
  refine ⟨st', ?_⟩
  rw [e, sC_sC, q8 w hw]
  unfold aF
  rw [if_pos hA]
theorem askR0 (n : Nat) (hn : 2200 < n) {τ : Nat → Int64} {S σ : am_M} {N m h t : Nat} {kd nx ot : Nat → Nat} {G : Nat → Nat → List Int32} (hb : rB n τ S σ N m kd nx ot G) (hh : h < m) (ha : act S σ N m kd G h t) (hk : kd t ≤ 3) (st : Nat → Int32) : ∃ st', X8_asked n (sC σ 16 st) (nI h) 0 = some (S 1 (13 * h + 10), sC σ 16 st') := by
  obtain ⟨st', e⟩ := askR n hn hb hh ha (w := 0) (by omega) (by
    rcases (show kd t = 0 ∨ kd t = 1 ∨ kd t = 2 ∨ kd t = 3 by omega) with q | q | q | q <;> rw [q] <;> rfl) st
  rw [show mkA (kd t) 0 = 0 by unfold mkA; split <;> rfl] at e
  exact ⟨st', e⟩
theorem askR1 (n : Nat) (hn : 2200 < n) {τ : Nat → Int64} {S σ : am_M} {N m h t : Nat} {kd nx ot : Nat → Nat} {G : Nat → Nat → List Int32} (hb : rB n τ S σ N m kd nx ot G) (hh : h < m) (ha : act S σ N m kd G h t) (hk : kd t ≤ 4) (st : Nat → Int32) : ∃ st', X8_asked n (sC σ 16 st) (nI h) 1 = some (S 1 (13 * h + 11), sC σ 16 st') := by
  obtain ⟨st', e⟩ := askR n hn hb hh ha (w := 1) (by omega) (by
    rcases (show kd t = 0 ∨ kd t = 1 ∨ kd t = 2 ∨ kd t = 3 ∨ kd t = 4 by omega) with q | q | q | q | q <;> rw [q] <;> rfl) st
  rw [show mkA (kd t) 1 = 1 by unfold mkA; rw [if_pos hk]] at e
  exact ⟨st', e⟩
theorem askR2 (n : Nat) (hn : 2200 < n) {τ : Nat → Int64} {S σ : am_M} {N m h t : Nat} {kd nx ot : Nat → Nat} {G : Nat → Nat → List Int32} (hb : rB n τ S σ N m kd nx ot G) (hh : h < m) (ha : act S σ N m kd G h t) (hk : kd t ≤ 2) (st : Nat → Int32) : ∃ st', X8_asked n (sC σ 16 st) (nI h) 2 = some (S 1 (13 * h + 12), sC σ 16 st') := by
  obtain ⟨st', e⟩ := askR n hn hb hh ha (w := 2) (by omega) (by
    rcases (show kd t = 0 ∨ kd t = 1 ∨ kd t = 2 by omega) with q | q | q <;> rw [q] <;> rfl) st
  rw [show mkA (kd t) 2 = 2 by unfold mkA; rw [if_pos (by omega)]] at e
  exact ⟨st', e⟩
theorem askRs (n : Nat) (hn : 2200 < n) {τ : Nat → Int64} {S σ : am_M} {N m h t : Nat} {kd nx ot : Nat → Nat} {G : Nat → Nat → List Int32} (hb : rB n τ S σ N m kd nx ot G) (hh : h < m) (ha : act S σ N m kd G h t) (hk : kd t = 7) (st : Nat → Int32) : ∃ st', X8_asked n (sC σ 16 st) (nI h) 0 = some (S 1 (13 * h + 12), sC σ 16 st') := by
  obtain ⟨st', e⟩ := askR n hn hb hh ha (w := 2) (by omega) (by rw [hk]; rfl) st
  rw [show mkA (kd t) 2 = 0 by unfold mkA; rw [if_neg (by omega)]] at e
  exact ⟨st', e⟩
/-- a WORD lies -/
def LY (S : am_M) (M : Nat) (p mk : Int32) : Prop := ¬ fiW (am_sub S 2) p mk 0 M = -1
/-- a HAND's WORD can be handed over; c: who alone may be taken at an 'any' -/
def MT (S : am_M) (M h : Nat) (c : Int32) : Prop := ∃ o, o < 8 ∧ S 1 (13 * h + 10) = nI o ∧ ((dg S o = 3 ∧ S 1 (13 * o + 10) = nI h) ∨ (dg S o = 4 ∧ (c = -1 ∨ c = nI h))) ∧ S 1 (13 * o + 11) = S 1 (13 * h + 11) ∧ ¬ LY S M (nI (8 * h + o)) (S 1 (13 * h + 11))
def RM (n : Nat) (S : am_M) (h : Nat) : Prop := ∃ v, X6_sentBetween n (am_sub S 2) (nI h) (S 1 (13 * h + 10)) = some v ∧ v < S 0 2
theorem hasRoom_eq (n : Nat) (hn : 2200 < n) {S σ : am_M} {M h o : Nat} (hr : rW (am_sub S 2) σ M) (hh : h < 8) (ho : o < 8) (e : S 1 (13 * h + 10) = nI o) : ∃ b, X2_hasRoom n S (nI h) = some b ∧ (b = true ↔ RM n S h) := by
  obtain ⟨v, -, e2⟩ := sent_eq n (am_sub S 2) σ M hr h o hh ho (by omega)
  unfold X2_hasRoom
  rw [X2_g10 hh, e, e2]
  dsimp only [Option.bind]
  have hR : RM n S h ↔ v < S 0 2 := by
    unfold RM
    rw [e, e2]
    exact ⟨fun ⟨w, q1, q2⟩ => by rw [Option.some.inj q1]; exact q2, fun q => ⟨v, rfl, q⟩⟩
  by_cases h1 : S 0 2 ≤ v
  · exact ⟨false, by rw [if_pos h1], ⟨fun q => absurd q (by decide), fun q => absurd (hR.mp q) (Int32.not_lt.mpr h1)⟩⟩
  · exact ⟨true, by rw [if_neg h1], ⟨fun _ => hR.mpr (Int32.not_le.mp h1), fun _ => rfl⟩⟩
/-- the class: canMeet -/
theorem canMeet_eq (n : Nat) (hn : 2200 < n) {S σ : am_M} {M h o : Nat} (hr : rW (am_sub S 2) σ M) (hh : h < 8) (ho : o < 8) (e : S 1 (13 * h + 10) = nI o) : ∃ b, X2_canMeet n S (nI h) = some b ∧ (b = true ↔ MT S M h (-1)) := by
  have uniq : MT S M h (-1) ↔ ((dg S o = 3 ∧ S 1 (13 * o + 10) = nI h) ∨ dg S o = 4) ∧ S 1 (13 * o + 11) = S 1 (13 * h + 11) ∧ ¬ LY S M (nI (8 * h + o)) (S 1 (13 * h + 11)) := by
    unfold MT
    constructor
    · rintro ⟨o', q0, q1, q2, q3⟩
      have : o' = o := by rw [e] at q1; exact ((nI_eq (by omega) (by omega)).mp q1).symm
      subst this
      exact ⟨q2.imp id And.left, q3⟩
    · rintro ⟨q1, q2⟩
      exact ⟨o, ho, e, q1.imp id (fun q => ⟨q, Or.inl rfl⟩), q2⟩
  obtain ⟨b61, e61, i61⟩ : ∃ b, X2_canMeet_J61 n S (nI h) (nI o) = some b ∧ (b = true ↔ ¬ LY S M (nI (8 * h + o)) (S 1 (13 * h + 11))) := by
    unfold X2_canMeet_J61
    rw [X2_g11 hh, (lying_first n (am_sub S 2) σ M hr h o hh ho _ (by omega)).2]
    dsimp only [Option.bind]
    unfold LY
    by_cases q : fiW (am_sub S 2) (nI (8 * h + o)) (S 1 (13 * h + 11)) 0 M = -1
    · exact ⟨true, by rw [if_pos q], ⟨fun _ => by simpa using q, fun _ => rfl⟩⟩
    · exact ⟨false, by rw [if_neg q], ⟨fun r => absurd r (by decide), fun r => absurd q (by simpa using r)⟩⟩
  unfold X2_canMeet X2_canMeet_J24
  rw [X2_g10 hh, e, X2_g11 ho, X2_g11 hh, X2_g10 ho, show X2_doing S (nI o) = dg S o from rfl, e61]
  by_cases h3 : dg S o = 3
  · rw [if_pos h3]
    by_cases hmk : S 1 (13 * o + 11) = S 1 (13 * h + 11)
    · rw [if_pos hmk, if_pos h3]
      by_cases ht : S 1 (13 * o + 10) = nI h
      · refine ⟨_, by rw [if_pos ht], ?_⟩
        rw [uniq, i61]
        exact ⟨fun q => ⟨Or.inl ⟨h3, ht⟩, hmk, q⟩, fun q => q.2.2⟩
      · refine ⟨false, by rw [if_neg ht], ⟨fun q => absurd q (by decide), fun q => ?_⟩⟩
        rcases (uniq.mp q).1 with r | r
        · exact absurd r.2 ht
        · rw [h3] at r; exact absurd r (by decide)
    · exact ⟨false, by rw [if_neg hmk], ⟨fun q => absurd q (by decide), fun q => absurd (uniq.mp q).2.1 hmk⟩⟩
  · rw [if_neg h3]
    by_cases h4 : dg S o = 4
    · rw [if_pos h4]
      by_cases hmk : S 1 (13 * o + 11) = S 1 (13 * h + 11)
      · rw [if_pos hmk, if_neg h3]
        refine ⟨_, rfl, ?_⟩
        rw [uniq, i61]
        exact ⟨fun q => ⟨Or.inr h4, hmk, q⟩, fun q => q.2.2⟩
      · exact ⟨false, by rw [if_neg hmk], ⟨fun q => absurd q (by decide), fun q => absurd (uniq.mp q).2.1 hmk⟩⟩
    · rw [if_neg h4]
      refine ⟨false, rfl, ⟨fun q => absurd q (by decide), fun q => ?_⟩⟩
      rcases (uniq.mp q).1 with r | r
      · exact absurd r.1 h3
      · exact absurd r h4
/-- the reference: hands -/
theorem hands_eq (n : Nat) (hn : 2200 < n) {τ : Nat → Int64} {S σ : am_M} {N m h t M : Nat} {kd nx ot : Nat → Nat} {G : Nat → Nat → List Int32} (hb : rB n τ S σ N m kd nx ot G) (hq : rQ S σ N m kd G M) (hh : h < m) (ha : act S σ N m kd G h t) (hk : kd t ≤ 1) (st : Nat → Int32) : ∃ b st', X8_hands n (sC σ 16 st) (nI h) = some (b, sC σ 16 st') ∧ (b = true ↔ MT S M h (σ 0 35)) := by
  have m8 := hb.2.2.2.1
  obtain ⟨hd, hw, hne⟩ := hq
  obtain ⟨o, ho, hoh, e⟩ := ha.2.2.2.2.2.2.2.2.2 (by omega)
  have uniq : MT S M h (σ 0 35) ↔ ((dg S o = 3 ∧ S 1 (13 * o + 10) = nI h) ∨ (dg S o = 4 ∧ (σ 0 35 = -1 ∨ σ 0 35 = nI h))) ∧ S 1 (13 * o + 11) = S 1 (13 * h + 11) ∧ ¬ LY S M (nI (8 * h + o)) (S 1 (13 * h + 11)) := by
    unfold MT
    constructor
    · rintro ⟨o', q0, q1, q2, q3⟩
      have : o' = o := by rw [e] at q1; exact ((nI_eq (by omega) (by omega)).mp q1).symm
      subst this
      exact ⟨q2, q3⟩
    · rintro ⟨q1, q2⟩
      exact ⟨o, by omega, e, q1, q2⟩
  obtain ⟨s1, e1⟩ := askR0 n hn hb hh ha (by omega) st
  obtain ⟨s2, e2⟩ := askR1 n hn hb hh ha (by omega) s1
  have a3 := isAt_eq (st := s2) (k := 3) hb ho (hd o ho) (by omega)
  have hoc := hd_cases hb ho (hd o ho)
  -- at the end: mark and lying
  have j58 : ∀ (u : Nat) (s : Nat → Int32), act S σ N m kd G o u → kd u ≤ 4 → ∃ b s', X8_hands_J58 n (sC σ 16 s) (nI h) (nI o) (S 1 (13 * h + 11)) = some (b, sC σ 16 s') ∧ (b = true ↔ S 1 (13 * o + 11) = S 1 (13 * h + 11) ∧ ¬ LY S M (nI (8 * h + o)) (S 1 (13 * h + 11))) := by
    intro u s hu hu4
    obtain ⟨s', e5⟩ := askR1 n hn hb ho hu hu4 s
    unfold X8_hands_J58 X8_hands_J63
    rw [if_neg (by decide), e5]
    dsimp only [Option.bind]
    by_cases hmk : S 1 (13 * o + 11) = S 1 (13 * h + 11)
    · rw [if_pos hmk]
      have e6 := (lying_first n (am_sub S 2) (sC σ 16 s') M hw h o (by omega) (by omega) (S 1 (13 * h + 11)) (by omega)).1
      rw [e6]
      dsimp only
      unfold LY
      by_cases q : fiW (am_sub S 2) (nI (8 * h + o)) (S 1 (13 * h + 11)) 0 M = -1
      · exact ⟨true, s', by rw [if_pos q], ⟨fun _ => ⟨hmk, by simpa using q⟩, fun _ => rfl⟩⟩
      · exact ⟨false, s', by rw [if_neg q], ⟨fun r => absurd r (by decide), fun r => absurd r.2 (by simpa using q)⟩⟩
    · exact ⟨false, s', by rw [if_neg hmk], ⟨fun r => absurd r (by decide), fun r => absurd r.1 hmk⟩⟩
  have j62 : ∀ s : Nat → Int32, X8_hands_J62 n (sC σ 16 s) (nI h) (nI o) (S 1 (13 * h + 11)) = some (false, sC σ 16 s) := by
    intro s
    unfold X8_hands_J62 X8_hands_J63
    rw [if_pos rfl]
  have j33 : ∀ s : Nat → Int32, ∃ b s', X8_hands_J33 n (sC σ 16 s) (nI h) (nI o) (S 1 (13 * h + 11)) = some (b, sC σ 16 s') ∧ (b = true ↔ (dg S o = 4 ∧ (σ 0 35 = -1 ∨ σ 0 35 = nI h)) ∧ S 1 (13 * o + 11) = S 1 (13 * h + 11) ∧ ¬ LY S M (nI (8 * h + o)) (S 1 (13 * h + 11))) := by
    intro s
    have a4 := isAt_eq (st := s) (k := 4) hb ho (hd o ho) (by omega)
    unfold X8_hands_J33
    rw [show (4 : Int32) = nI 4 from rfl, a4]
    dsimp only [Option.bind]
    by_cases h4 : dg S o = nI 4
    · rw [decide_eq_true h4, if_pos rfl]
      rcases hoc with q | ⟨u, hu⟩
      · rw [q.1] at h4; exact absurd h4 (by decide)
      · have hu4 : kd u ≤ 4 := by
          have := hu.2.2.2.2.2.2.2.1
          have h8 := hu.2.2.1
          rw [h4] at this
          have := (nI_eq (by omega) (by omega)).mp this
          omega
        obtain ⟨b, s', e7, e8⟩ := j58 u s hu hu4
        rw [show (sC σ 16 s) 0 35 = σ 0 35 from rfl, j62 s]
        by_cases c1 : σ 0 35 = -1
        · rw [if_pos c1]
          exact ⟨b, s', e7, e8.trans ⟨fun q => ⟨⟨h4, Or.inl c1⟩, q⟩, fun q => q.2⟩⟩
        · rw [if_neg c1]
          by_cases c2 : σ 0 35 = nI h
          · rw [if_pos c2]
            exact ⟨b, s', e7, e8.trans ⟨fun q => ⟨⟨h4, Or.inr c2⟩, q⟩, fun q => q.2⟩⟩
          · rw [if_neg c2]
            exact ⟨false, s, rfl, ⟨fun r => absurd r (by decide), fun r => absurd r.1.2 (by rintro (q | q); exact c1 q; exact c2 q)⟩⟩
    · rw [decide_eq_false h4, if_neg (by decide), j62 s]
      exact ⟨false, s, rfl, ⟨fun r => absurd r (by decide), fun r => absurd r.1.1 h4⟩⟩
  unfold X8_hands
  rw [e1]
  dsimp only [Option.bind]
  rw [e2]
  dsimp only
  rw [e, show (3 : Int32) = nI 3 from rfl, a3]
  dsimp only
  by_cases h3 : dg S o = nI 3
  · rw [decide_eq_true h3, if_pos rfl]
    rcases hoc with q | ⟨u, hu⟩
    · rw [q.1] at h3; exact absurd h3 (by decide)
    · have hu3 : kd u = 3 := by
        have := hu.2.2.2.2.2.2.2.1
        have h8 := hu.2.2.1
        rw [h3] at this
        have := (nI_eq (by omega) (by omega)).mp this
        omega
      obtain ⟨s3, e9⟩ := askR0 n hn hb ho hu (by omega) s2
      rw [e9]
      dsimp only
      by_cases ht : S 1 (13 * o + 10) = nI h
      · rw [if_pos ht]
        obtain ⟨b, s', e7, e8⟩ := j58 u s3 hu (by omega)
        exact ⟨b, s', e7, e8.trans (Iff.trans ⟨fun q => ⟨Or.inl ⟨h3, ht⟩, q⟩, fun q => q.2⟩ uniq.symm)⟩
      · rw [if_neg ht]
        obtain ⟨b, s', e7, e8⟩ := j33 s3
        refine ⟨b, s', e7, e8.trans (Iff.trans ⟨fun q => ⟨Or.inr q.1, q.2⟩, fun q => ?_⟩ uniq.symm)⟩
        rcases q.1 with r | r
        · exact absurd r.2 ht
        · exact ⟨r, q.2⟩
  · rw [decide_eq_false h3, if_neg (by decide)]
    obtain ⟨b, s', e7, e8⟩ := j33 s2
    refine ⟨b, s', e7, e8.trans (Iff.trans ⟨fun q => ⟨Or.inr q.1, q.2⟩, fun q => ?_⟩ uniq.symm)⟩
    rcases q.1 with r | r
    · exact absurd r.1 h3
    · exact ⟨r, q.2⟩
