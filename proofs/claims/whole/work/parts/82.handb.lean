/-! A MOVE THAT HANDS A WORD OVER: both sides -/
theorem mv_hand (n : Nat) (hn : 2200 < n) {τ : Nat → Int64} {S σ : am_M} {N m h t M : Nat} {cc : Int32} {kd nx ot : Nat → Nat} {G : Nat → Nat → List Int32} (hb : rB n τ S σ N m kd nx ot G) (hq : rQ S σ N m kd G M) (hg : S 0 15 = 0) (hz : zr σ m) (hh : h < m) (ha : act S σ N m kd G h t) (hk : kd t ≤ 1) (hmt : MT S M h cc) (st : Nat → Int32) :
    ∃ S1 S' σ', X2_handOver (S00 S) (nI h) = some S1 ∧ X2_goOn n τ S1 = some S' ∧ X8_handOver n (sC (M00 σ) 16 st) (nI h) = some σ' ∧ mvd n τ S σ S' σ' N m kd nx ot G M M := by
  have m8 := hb.2.2.2.1
  have hN4 := hb.1.1
  have htN := ha.2.1
  obtain ⟨o, ho8, hf, hkk, -, -⟩ := hmt
  have hoo : o < m ∧ o ≠ h := by
    obtain ⟨o0, ho0, hoh0, hf0⟩ := ha.2.2.2.2.2.2.2.2.2 (by omega)
    have e0 : o0 = o := by
      rw [hf0] at hf
      exact (nI_eq (by omega) (by omega)).mp hf
    rw [← e0]
    exact ⟨ho0, hoh0⟩
  obtain ⟨ho, hoh⟩ := hoo
  have hou : ∃ u, act S σ N m kd G o u ∧ (kd u = 3 ∨ kd u = 4) := by
    rcases hd_cases hb ho (hq.1 o ho) with q | ⟨u, hu⟩
    · rw [q.1] at hkk
      rcases hkk with q | q
      · exact absurd q.1 (by decide)
      · exact absurd q.1 (by decide)
    · refine ⟨u, hu, ?_⟩
      have h8 := hu.2.2.1
      have := hu.2.2.2.2.2.2.2.1
      rcases hkk with q | q
      · rw [q.1] at this
        exact Or.inl ((nI_eq (by omega) (by omega)).mp (show nI 3 = nI (kd u) from this)).symm
      · rw [q.1] at this
        exact Or.inr ((nI_eq (by omega) (by omega)).mp (show nI 4 = nI (kd u) from this)).symm
  obtain ⟨u, hu, hku⟩ := hou
  have huN := hu.2.1
  have hku4 : kd u ≤ 4 := by rcases hku with q | q <;> omega
  have hku8 : kd u < 8 := by omega
  obtain ⟨⟨k1, k2, k3⟩, -, -, -, -, -, bdt⟩ := hb.1.2.2.2 t htN
  obtain ⟨len, l1, l2, l3, l4⟩ := bdt (by omega)
  obtain ⟨⟨j1, j2, j3⟩, -, ⟨v, v1, v2, v3⟩, -, -, -, bdu⟩ := hb.1.2.2.2 u huN
  obtain ⟨b, b1, b2, b3, b4⟩ := bdu hku4
  clear bdt bdu
  obtain ⟨val, hval⟩ : ∃ val, val = S 1 (13 * h + 12) := ⟨_, rfl⟩
  -- the class's clocks
  obtain ⟨L, hL⟩ : ∃ L, L = J9_max_7cf53 (S 8 h) (S 8 o) := ⟨_, rfl⟩
  obtain ⟨fr, hfr⟩ : ∃ fr, fr = X2_far S (nI h) (nI o) := ⟨_, rfl⟩
  obtain ⟨a8, ha8⟩ : ∃ a8, a8 = upd (S 8) h (S 8 h + dl (S 8 h) L) := ⟨_, rfl⟩
  obtain ⟨a9, ha9⟩ : ∃ a9, a9 = upd (S 9) h (S 9 h + dl (S 8 h) L) := ⟨_, rfl⟩
  obtain ⟨b8, hb8⟩ : ∃ b8, b8 = upd a8 o (a8 o + dl (a8 o) L) := ⟨_, rfl⟩
  obtain ⟨b9, hb9⟩ : ∃ b9, b9 = upd a9 o (a9 o + dl (a8 o) L) := ⟨_, rfl⟩
  obtain ⟨c8, hc8⟩ : ∃ c8, c8 = upd b8 h (b8 h + (1 + fr)) := ⟨_, rfl⟩
  obtain ⟨d8, hd8⟩ : ∃ d8, d8 = upd c8 o (c8 o + (1 + fr)) := ⟨_, rfl⟩
  obtain ⟨q1, hq1⟩ : ∃ q1, q1 = sC (sC (S00 S) 8 a8) 9 a9 := ⟨_, rfl⟩
  obtain ⟨q2, hq2⟩ : ∃ q2, q2 = sC (sC q1 8 b8) 9 b9 := ⟨_, rfl⟩
  obtain ⟨q3, hq3⟩ : ∃ q3, q3 = sC q2 8 c8 := ⟨_, rfl⟩
  obtain ⟨q4, hq4⟩ : ∃ q4, q4 = sC q3 8 d8 := ⟨_, rfl⟩
  have q4c : ∀ c, c ≠ 8 → c ≠ 9 → q4 c = S00 S c := fun c h1 h2 => by
    rw [hq4, sC_ne h1, hq3, sC_ne h1, hq2, sC_ne h2, sC_ne h1, hq1, sC_ne h2, sC_ne h1]
  have S00c : ∀ c, c ≠ 0 → S00 S c = S c := fun c hc => sC_ne hc
  have q40 : q4 0 = S00 S 0 := q4c 0 (by omega) (by omega)
  have q48 : q4 8 = d8 := by rw [hq4]
  have q49 : q4 9 = b9 := by rw [hq4, sC_ne (by omega), hq3, sC_ne (by omega), hq2]
  have hkind : X3_kindOf (am_sub q4 11) (nI u) = nI (kd u) := kindOf_eq (N := N) (by rw [q4c 11 (by omega) (by omega)]; exact hb.1.2.1) hN4 huN (by rw [q4c 12 (by omega) (by omega)]; exact j2)
  have hrec := receive_eq (R := q4) (h := o) (t := u) (k := kd u) (v := v) (b := b) (sz := len) (src := nI h) (val := val) (by omega) (by omega) (by rw [q4c 1 (by omega) (by omega)]; exact hu.2.2.2.1) (by omega) hkind v1 (by rw [q4c 15 (by omega) (by omega)]; exact v2) (by omega) (by rw [q4c 16 (by omega) (by omega)]; exact b3) (by omega)
  rw [q4c 1 (by omega) (by omega), q40, show S00 S 1 = S 1 from rfl] at hrec
  obtain ⟨F0, hF0⟩ : ∃ F0, F0 = rcF (S00 S 0) (kd u) o u (nI h) := ⟨_, rfl⟩
  rw [← hF0] at hrec
  have F0k : ∀ k, k < 12 ∨ 14 < k → F0 k = S 0 k := fun k hk => by
    rw [hF0]
    unfold rcF
    have : S00 S 0 k = S 0 k := am_u_ne (by omega)
    by_cases c : kd u = 4
    · rw [if_pos c, am_u_ne (by omega), am_u_ne (by omega), am_u_ne (by omega)]; exact this
    · rw [if_neg c]; exact this
  obtain ⟨f1, hf1⟩ : ∃ f1, f1 = if len ≤ b then rcS (S 1) o v val (nI h) else stop4 (rcS (S 1) o v val (nI h)) o := ⟨_, rfl⟩
  obtain ⟨bits, hbits⟩ : ∃ bits, bits = if len ≤ b then 2 ^ o ||| 2 ^ h else 2 ^ h := ⟨_, rfl⟩
  obtain ⟨S1, hS1⟩ : ∃ S1, S1 = sC (sC q4 1 f1) 0 (am_u F0 15 (nI bits)) := ⟨_, rfl⟩
  have hone : ∀ (X : am_M) (k : Int32), (X2_hasDone X (nI h)).bind (fun q6 => some q6) = some (sC X 0 (am_u (X 0) 15 (X 0 15 ||| (1 <<< (nI h &&& 31))))) := fun X k => rfl
  have hpo : (2 : Nat) ^ o < 256 := by
    have : 2 ^ o ≤ 2 ^ 7 := Nat.pow_le_pow_right (by omega) (by omega)
    omega
  have c1 : X2_handOver (S00 S) (nI h) = some S1 := by
    unfold X2_handOver
    rw [X2_g10 (by omega), show S00 S 1 (13 * h + 10) = nI o from hf, jat_nI (by omega) (by omega), jat_nI (by omega) (by omega), show J9_max_7cf53 (S00 S 8 h) (S00 S 8 o) = L by rw [hL]; rfl, raise_eq (by omega)]
    dsimp only [Option.bind]
    rw [show sC (sC (S00 S) 8 (upd (S00 S 8) h (S00 S 8 h + dl (S00 S 8 h) L))) 9 (upd (S00 S 9) h (S00 S 9 h + dl (S00 S 8 h) L)) = q1 by rw [hq1, ha8, ha9]; rfl, raise_eq (by omega)]
    dsimp only
    rw [show sC (sC q1 8 (upd (q1 8) o (q1 8 o + dl (q1 8 o) L))) 9 (upd (q1 9) o (q1 9 o + dl (q1 8 o) L)) = q2 by rw [hq2, hb8, hb9, show q1 8 = a8 by rw [hq1], show q1 9 = a9 by rw [hq1]]]
    unfold X2_tick
    dsimp only
    rw [jat_nI (by omega) (by omega), jput_nI (by omega) (by omega), show X2_far q2 (nI h) (nI o) = fr by rw [hfr, hq2, hq1]; rfl, show q2 8 = b8 by rw [hq2]]
    rw [show sC q2 8 (upd b8 h (b8 h + (1 + fr))) = q3 by rw [hq3, hc8]]
    rw [jat_nI (by omega) (by omega), jput_nI (by omega) (by omega), show X2_far q3 (nI h) (nI o) = fr by rw [hfr, hq3, hq2, hq1]; rfl, show q3 8 = c8 by rw [hq3]]
    rw [show sC q3 8 (upd c8 o (c8 o + (1 + fr))) = q4 by rw [hq4, hd8]]
    rw [X2_g12 (by omega), X2_g0 (by omega), q4c 1 (by omega) (by omega), show S00 S 1 (13 * h + 12) = val from hval.symm, show S00 S 1 (13 * h + 0) = nI t from ha.2.2.2.1, jat_nI (by omega) (by omega), q4c 16 (by omega) (by omega), show S00 S 16 t = nI len from l3, hrec]
    dsimp only
    unfold X2_hasDone
    dsimp only
    rw [hS1, hf1, hbits]
    by_cases hlb : len ≤ b
    · rw [if_pos hlb, if_pos hlb, if_pos hlb]
      congr 1
      funext c
      have e15 : am_u F0 15 (F0 15 ||| 1 <<< (nI o &&& 31)) 15 ||| 1 <<< (nI h &&& 31) = nI (2 ^ o ||| 2 ^ h) := by
        show (F0 15 ||| 1 <<< (nI o &&& 31)) ||| 1 <<< (nI h &&& 31) = _
        rw [F0k 15 (by omega), hg, ← nI_0, (bit_or 0 (by omega) o (by omega)).1, Nat.zero_or, (bit_or (2 ^ o) hpo h (by omega)).1]
      rcases c with _ | _ | c
      · show am_u (am_u F0 15 (F0 15 ||| 1 <<< (nI o &&& 31))) 15 (am_u F0 15 (F0 15 ||| 1 <<< (nI o &&& 31)) 15 ||| 1 <<< (nI h &&& 31)) = am_u F0 15 (nI (2 ^ o ||| 2 ^ h))
        rw [e15]
        funext k
        by_cases e : k = 15
        · subst e; rfl
        · rw [am_u_ne e, am_u_ne e, am_u_ne e]
      · rfl
      · rfl
    · rw [if_neg hlb, if_neg hlb, if_neg hlb]
      congr 1
      funext c
      have e15 : F0 15 ||| 1 <<< (nI h &&& 31) = nI (2 ^ h) := by
        rw [F0k 15 (by omega), hg, ← nI_0, (bit_or 0 (by omega) h (by omega)).1, Nat.zero_or]
      rcases c with _ | _ | c
      · show am_u F0 15 (F0 15 ||| 1 <<< (nI h &&& 31)) = am_u F0 15 (nI (2 ^ h))
        rw [e15]
      · rfl
      · rfl
  -- the reference's clocks
  obtain ⟨L', hL'⟩ : ∃ L', L' = J9_max_7cf53 (σ 17 h) (σ 17 o) := ⟨_, rfl⟩
  obtain ⟨fr', hfr'⟩ : ∃ fr', fr' = X8_farOf σ (nI h) (nI o) := ⟨_, rfl⟩
  obtain ⟨a17, ha17⟩ : ∃ a17, a17 = upd (σ 17) h (σ 17 h + dl (σ 17 h) L') := ⟨_, rfl⟩
  obtain ⟨a18, ha18⟩ : ∃ a18, a18 = upd (σ 18) h (σ 18 h + dl (σ 17 h) L') := ⟨_, rfl⟩
  obtain ⟨b17, hb17⟩ : ∃ b17, b17 = upd a17 o (a17 o + dl (a17 o) L') := ⟨_, rfl⟩
  obtain ⟨b18, hb18⟩ : ∃ b18, b18 = upd a18 o (a18 o + dl (a17 o) L') := ⟨_, rfl⟩
  obtain ⟨c17, hc17⟩ : ∃ c17, c17 = upd b17 h (b17 h + (1 + fr')) := ⟨_, rfl⟩
  obtain ⟨d17, hd17⟩ : ∃ d17, d17 = upd c17 o (c17 h) := ⟨_, rfl⟩
  have hb0 := rB_00 hb
  have hq0 := rQ_00 m8 hq
  have ha0 := act_00 (by omega) ha
  obtain ⟨s1, e1⟩ := askR0 n hn hb0 hh ha0 (by omega) st
  obtain ⟨s2, e2⟩ := askR2 n hn hb0 hh ha0 (by omega) s1
  obtain ⟨r7, hr7⟩ : ∃ r7, r7 = sC (sC (sC (M00 σ) 16 s2) 17 a17) 18 a18 := ⟨_, rfl⟩
  obtain ⟨r8, hr8⟩ : ∃ r8, r8 = sC (sC r7 17 b17) 18 b18 := ⟨_, rfl⟩
  obtain ⟨r9, hr9⟩ : ∃ r9, r9 = sC r8 17 d17 := ⟨_, rfl⟩
  have r9c : ∀ c, c ≠ 16 → c ≠ 17 → c ≠ 18 → r9 c = M00 σ c := fun c h0 h1 h2 => by
    rw [hr9, sC_ne h1, hr8, sC_ne h2, sC_ne h1, hr7, sC_ne h2, sC_ne h1, sC_ne h0]
  have M00c : ∀ c, c ≠ 0 → M00 σ c = σ c := fun c hc => sC_ne hc
  have hb9' : rB n τ S r9 N m kd nx ot G := rB_congr (S := S) (σ := σ) (fun _ _ _ => rfl) rfl rfl (fun c q1 q2 => by rw [r9c c (by omega) (by omega) (by omega)]; exact M00c c (by omega)) (by rw [r9c 0 (by omega) (by omega) (by omega)]; rfl) (by rw [r9c 0 (by omega) (by omega) (by omega)]; rfl) hb
  have hisat : X8_isAt r9 (nI o) 4 = some (decide (dg S o = nI 4)) := by
    have := isAt_eq (σ := r9) (st := r9 16) (k := 4) hb9' ho (rHD_congr (S := S) (σ := σ) (by omega) (fun _ _ => rfl) (fun j _ => by rw [r9c 15 (by omega) (by omega) (by omega)]; rfl) (hq.1 o ho)) (by omega)
    rw [sC_self] at this
    exact this
  obtain ⟨σa, hσa⟩ : ∃ σa, σa = if kd u = 4 then sC r9 0 (am_u (am_u (am_u (r9 0) 40 (nI o)) 41 (nI h)) 42 (nI u)) else r9 := ⟨_, rfl⟩
  have c2 : X8_handOver n (sC (M00 σ) 16 st) (nI h) = (X8_goOn n σa (nI h)).bind (fun q1 => X8_has n q1 (nI o) (nI h) val (nI len)) := by
    unfold X8_handOver
    rw [e1]
    dsimp only [Option.bind]
    rw [e2]
    dsimp only
    rw [X8_o0 (by omega), show (sC (M00 σ) 16 s2) 15 (8 * h + 0) = nI t from ha.2.2.2.2.1, show S00 S 1 (13 * h + 10) = nI o from hf, show S00 S 1 (13 * h + 12) = val from hval.symm]
    dsimp only
    rw [if_neg (pu_g (n := 80) (by omega) (by omega)), if_neg (pu_g (i := h) (n := 8) (by omega) (by omega)), if_neg (pu_g (i := o) (n := 8) (by omega) (by omega)), nI_clamp (n := h) (by omega), nI_clamp (n := o) (by omega), nI_clamp (n := t) (by omega), show (sC (M00 σ) 16 s2) 17 = σ 17 from rfl, ← hL', upTo_eq (by omega)]
    dsimp only
    rw [show sC (sC (sC (M00 σ) 16 s2) 17 (upd ((sC (M00 σ) 16 s2) 17) h ((sC (M00 σ) 16 s2) 17 h + dl ((sC (M00 σ) 16 s2) 17 h) L'))) 18 (upd ((sC (M00 σ) 16 s2) 18) h ((sC (M00 σ) 16 s2) 18 h + dl ((sC (M00 σ) 16 s2) 17 h) L')) = r7 by rw [hr7, ha17, ha18]; rfl, upTo_eq (by omega)]
    dsimp only
    rw [show sC (sC r7 17 (upd (r7 17) o (r7 17 o + dl (r7 17 o) L'))) 18 (upd (r7 18) o (r7 18 o + dl (r7 17 o) L')) = r8 by rw [hr8, hb17, hb18, show r7 17 = a17 by rw [hr7], show r7 18 = a18 by rw [hr7]]]
    rw [show X8_farOf r8 (nI h) (nI o) = fr' by rw [hfr', hr8, hr7]; rfl, show r8 17 = b17 by rw [hr8]]
    have gh : ¬ (nI h < 0 ∨ 8 ≤ h) := fun q => by
      rcases q with q | q
      · exact pu_nlt0 (by omega) q
      · omega
    have go : ¬ (nI o < 0 ∨ 8 ≤ o) := fun q => by
      rcases q with q | q
      · exact pu_nlt0 (by omega) q
      · omega
    rw [if_neg gh, if_neg gh, if_neg gh, if_neg go, ← hc17, ← hd17, ← hr9, hisat]
    dsimp only
    have hj : ∀ X : am_M, X8_handOver_J102 n X (nI h) (nI o) val ((sC (M00 σ) 16 s2) 10 t) = (X8_goOn n X (nI h)).bind (fun q1 => X8_has n q1 (nI o) (nI h) val (nI len)) := fun X => by
      unfold X8_handOver_J102
      rw [show (sC (M00 σ) 16 s2) 10 t = nI len from l4]
      congr 1
      funext q1
      cases X8_has n q1 (nI o) (nI h) val (nI len) <;> rfl
    have hdgu : dg S o = nI (kd u) := hu.2.2.2.2.2.2.2.1
    by_cases c4 : kd u = 4
    · rw [decide_eq_true (show dg S o = nI 4 by rw [hdgu, c4]), if_pos rfl, hσa, if_pos c4]
      have hna : X8_noteAny r9 (nI o) (nI h) = some (sC r9 0 (am_u (am_u (am_u (r9 0) 40 (nI o)) 41 (nI h)) 42 (nI u))) := by
        unfold X8_noteAny
        rw [X8_o0 (by omega), show (sC r9 0 (am_u (am_u (r9 0) 40 (nI o)) 41 (nI h))) 15 (8 * o + 0) = nI u by
          show r9 15 _ = _
          rw [r9c 15 (by omega) (by omega) (by omega)]
          exact hu.2.2.2.2.1]
        rfl
      rw [hna]
      exact hj _
    · rw [decide_eq_false (show ¬ dg S o = nI 4 by rw [hdgu]; exact fun q => c4 ((nI_eq (by omega) (by omega)).mp q)), if_neg (by decide), hσa, if_neg c4]
      exact hj _
  -- the end
  have σac : ∀ c, c ≠ 0 → c < 16 ∨ 20 < c → σa c = σ c := fun c h0 h1 => by
    rw [hσa]
    by_cases c4 : kd u = 4
    · rw [if_pos c4, sC_ne h0, r9c c (by omega) (by omega) (by omega)]; exact M00c c h0
    · rw [if_neg c4, r9c c (by omega) (by omega) (by omega)]; exact M00c c h0
  have σa17 : ∀ c, 17 ≤ c → σa c = r9 c := fun c h0 => by
    rw [hσa]
    by_cases c4 : kd u = 4
    · rw [if_pos c4, sC_ne (by omega)]
    · rw [if_neg c4]
  have r90 : r9 0 = M00 σ 0 := r9c 0 (by omega) (by omega) (by omega)
  have σaf : ∀ k, k < 40 ∨ 42 < k → σa 0 k = σ 0 k := fun k hk => by
    have : M00 σ 0 k = σ 0 k := am_u_ne (by omega)
    rw [hσa]
    by_cases c4 : kd u = 4
    · rw [if_pos c4]
      show am_u (am_u (am_u (r9 0) 40 (nI o)) 41 (nI h)) 42 (nI u) k = _
      rw [am_u_ne (by omega), am_u_ne (by omega), am_u_ne (by omega), r90]; exact this
    · rw [if_neg c4, r90]; exact this
  have S1c : ∀ c, c ≠ 0 → c ≠ 1 → c ≠ 8 → c ≠ 9 → S1 c = S c := fun c h0 h1 h2 h3 => by
    rw [hS1, sC_ne h0, sC_ne h1, q4c c h2 h3]; exact S00c c h0
  have S1f : ∀ k, k < 12 ∨ 15 < k → S1 0 k = S 0 k := fun k hk => by
    rw [hS1]
    show am_u F0 15 (nI bits) k = _
    rw [am_u_ne (by omega)]
    exact F0k k (by omega)
  have hany : anyR S1 σa m N kd := by
    have x12 : S1 0 12 = F0 12 := by rw [hS1]
    have x13 : S1 0 13 = F0 13 := by rw [hS1]
    have x14 : S1 0 14 = F0 14 := by rw [hS1]
    unfold anyR
    rw [x12, x13, x14, hF0, hσa]
    unfold rcF
    by_cases c4 : kd u = 4
    · rw [if_pos c4, if_pos c4]
      exact Or.inr ⟨o, u, h, rfl, rfl, rfl, rfl, rfl, rfl, ho, huN, c4, hh⟩
    · rw [if_neg c4, if_neg c4, r90]
      exact Or.inl ⟨rfl, rfl⟩
  obtain ⟨S', σ', w1, w2, w3⟩ := hand_fin n hn (S1 := S1) (σa := σa) (v := v) (b := b) (len := len) (val := val) hb hq hz hh ha ho hoh hu (fun c hc => S1c c (by omega) (by omega) (by omega) (by omega)) S1f (fun c h1 h2 => S1c c (by omega) (by omega) (by omega) (by omega)) σac σaf v1 v3 (by omega) b4 (by omega) (by rw [hS1, ← hf1]) (by rw [hS1, ← hbits]) (fun B hB hc => by
    obtain ⟨r1, r2, r3, r4, ⟨x, x1, x2, x3⟩, ⟨y, y1, y2, y3⟩⟩ := hc
    obtain ⟨z, z1, z2, z3⟩ := r1 h (by omega)
    obtain ⟨w, w1, w2, w3⟩ := r1 o (by omega)
    have hfl := far_le (h := h) (o := o) (x := x) (y := y) (by omega) (by omega) x1 y1
    obtain ⟨F, hF⟩ : ∃ F, F = x + ((h - o) + (o - h)) * y := ⟨_, rfl⟩
    rw [← hF] at hfl
    have frE : fr = nI F := by rw [hfr, far_cl (by omega) (by omega) x2 y2, hF]
    have frE' : fr' = nI F := by rw [hfr', far_rf (by omega) (by omega) x3 y3, hF]
    have LE : L = nI (max z w) := by rw [hL, z2, w2, max_nI (by omega) (by omega)]
    have LE' : L' = nI (max z w) := by rw [hL', z3, w3, max_nI (by omega) (by omega)]
    have hfr1 : (1 : Int32) + nI F = nI (1 + F) := nI_add 1 F
    have hho : h ≠ o := fun e => hoh e.symm
    refine ⟨fun j hj => ?_, fun j hj => ?_, fun j hj => ?_, fun k hk => ?_, ⟨x, x1, by rw [S1f 3 (by omega)]; exact x2, by rw [σaf 5 (by omega)]; exact x3⟩, ⟨y, y1, by rw [S1f 4 (by omega)]; exact y2, by rw [σaf 6 (by omega)]; exact y3⟩⟩
    · rw [show S1 8 = d8 by rw [hS1]; exact q48, σa17 17 (by omega), show r9 17 = d17 by rw [hr9]]
      have a8h : a8 h = nI (max z w) := by
        rw [ha8, upd_eq, z2, LE, dl_nI (by omega) (by omega), show max z (max z w) = max z w by omega]
      have a8o : a8 o = nI w := by rw [ha8, upd_ne hoh]; exact w2
      have b8o : b8 o = nI (max z w) := by
        rw [hb8, upd_eq, a8o, LE, dl_nI (by omega) (by omega), show max w (max z w) = max z w by omega]
      have b8h : b8 h = nI (max z w) := by rw [hb8, upd_ne hho]; exact a8h
      have a17h : a17 h = nI (max z w) := by
        rw [ha17, upd_eq, z3, LE', dl_nI (by omega) (by omega), show max z (max z w) = max z w by omega]
      have b17h : b17 h = nI (max z w) := by rw [hb17, upd_ne hho]; exact a17h
      by_cases e : j = o
      · subst e
        refine ⟨max z w + (1 + F), by omega, ?_, ?_⟩
        · rw [hd8, upd_eq, hc8, upd_ne hoh, b8o, frE, hfr1, nI_add]
        · rw [hd17, upd_eq, hc17, upd_eq, b17h, frE', hfr1, nI_add]
      · by_cases e2 : j = h
        · subst e2
          refine ⟨max z w + (1 + F), by omega, ?_, ?_⟩
          · rw [hd8, upd_ne e, hc8, upd_eq, b8h, frE, hfr1, nI_add]
          · rw [hd17, upd_ne e, hc17, upd_eq, b17h, frE', hfr1, nI_add]
        · obtain ⟨q, q1', q2', q3'⟩ := r1 j hj
          refine ⟨q, by omega, ?_, ?_⟩
          · rw [hd8, upd_ne e, hc8, upd_ne e2, hb8, upd_ne e, ha8, upd_ne e2]; exact q2'
          · rw [hd17, upd_ne e, hc17, upd_ne e2, hb17, upd_ne e, ha17, upd_ne e2]; exact q3'
    · rw [show S1 9 = b9 by rw [hS1]; exact q49, σa17 18 (by omega), show r9 18 = b18 by rw [hr9, sC_ne (by omega), hr8]]
      have a8o : a8 o = a17 o := by rw [ha8, ha17, upd_ne hoh, upd_ne hoh, w2, w3]
      have hLL : L = L' := by rw [LE, LE']
      rw [hb9, hb18, ha9, ha18, a8o, hLL, z2, z3]
      have zz : ∀ q, q < 8 → upd (S 9) h (S 9 h + dl (nI z) L') q = upd (σ 18) h (σ 18 h + dl (nI z) L') q := fun q hq' => by
        by_cases e : q = h
        · subst e; rw [upd_eq, upd_eq, r2 q hq']
        · rw [upd_ne e, upd_ne e]; exact r2 q hq'
      by_cases e : j = o
      · subst e
        rw [upd_eq, upd_eq, zz j hj]
      · rw [upd_ne e, upd_ne e]; exact zz j hj
    · obtain ⟨q, q1', q2', q3'⟩ := r3 j hj
      exact ⟨q, by omega, by rw [S1c 10 (by omega) (by omega) (by omega) (by omega)]; exact q2', by rw [σa17 19 (by omega), r9c 19 (by omega) (by omega) (by omega)]; exact q3'⟩
    · obtain ⟨q, q1', q2', q3'⟩ := r4 k hk
      exact ⟨q, by omega, by rw [S1c 6 (by omega) (by omega) (by omega) (by omega)]; exact q2', by rw [σa17 20 (by omega), r9c 20 (by omega) (by omega) (by omega)]; exact q3'⟩) hany
  exact ⟨S1, S', σ', c1, w1, c2.trans w2, w3⟩
