/-! A MOVE THAT HANDS A WORD OVER: its end -/
theorem hand_fin (n : Nat) (hn : 2200 < n) {τ : Nat → Int64} {S σ S1 σa : am_M} {N m h t o u M v b len : Nat} {val : Int32} {kd nx ot : Nat → Nat} {G : Nat → Nat → List Int32} (hb : rB n τ S σ N m kd nx ot G) (hq : rQ S σ N m kd G M) (hz : zr σ m) (hh : h < m) (ha : act S σ N m kd G h t) (ho : o < m) (hoh : o ≠ h) (hu : act S σ N m kd G o u)
    (S1c : ∀ c, 11 ≤ c → S1 c = S c) (S1f : ∀ k, k < 12 ∨ 15 < k → S1 0 k = S 0 k) (S1w : ∀ c, 2 ≤ c → c ≤ 5 → S1 c = S c)
    (σac : ∀ c, c ≠ 0 → c < 16 ∨ 20 < c → σa c = σ c) (σaf : ∀ k, k < 40 ∨ 42 < k → σa 0 k = σ 0 k)
    (hv : v < 4) (hv9 : σ 9 u = nI v) (hbb : b < 2 ^ 31) (hb10 : σ 10 u = nI b) (hlen : len < 2 ^ 31)
    (S1r : S1 1 = if len ≤ b then rcS (S 1) o v val (nI h) else stop4 (rcS (S 1) o v val (nI h)) o)
    (S115 : S1 0 15 = nI (if len ≤ b then 2 ^ o ||| 2 ^ h else 2 ^ h))
    (hclk : ∀ B, B ≤ 1000000 → rClk S σ M B → rClk S1 σa M (B + 1000)) (hany : anyR S1 σa m N kd) :
    ∃ S' σ', X2_goOn n τ S1 = some S' ∧ (X8_goOn n σa (nI h)).bind (fun q1 => X8_has n q1 (nI o) (nI h) val (nI len)) = some σ' ∧ mvd n τ S σ S' σ' N m kd nx ot G M M := by
  have m8 := hb.2.2.2.1
  have hN4 := hb.1.1
  have huN := hu.2.1
  have hba : rB n τ S1 σa N m kd nx ot G := rB_congr (S := S) (σ := σ) (fun c q1 _ => S1c c q1) (S1f 1 (by omega)) (S1f 2 (by omega)) (fun c q1 q2 => σac c (by omega) (by omega)) (σaf 3 (by omega)) (σaf 4 (by omega)) hb
  have r15 : σa 15 = σ 15 := σac 15 (by omega) (by omega)
  -- rows of S1 outside o
  have S1o : ∀ x, ¬ (13 * o ≤ x ∧ x < 13 * o + 13) → S1 1 x = S 1 x := fun x hx => by
    rw [S1r]
    by_cases c : len ≤ b
    · rw [if_pos c]
      unfold rcS
      rw [upd_ne (by omega), upd_ne (by omega)]
    · rw [if_neg c]
      unfold stop4 rcS
      rw [upd_ne (by omega), upd_ne (by omega), upd_ne (by omega), upd_ne (by omega), upd_ne (by omega), upd_ne (by omega)]
  have ha1 : act S1 σa N m kd G h t := act_congr (S := S) (σ := σ) (by omega) (fun j hj => S1o _ (by omega)) (S1f 1 (by omega)) (S1c 11 (by omega)) (S1c 12 (by omega)) (fun j hj => by rw [r15]) ha
  have p1 := pend_act hba ha1
  have hpo : (2 : Nat) ^ o < 256 ∧ (2 : Nat) ^ h < 256 := by
    have : 2 ^ o ≤ 2 ^ 7 := Nat.pow_le_pow_right (by omega) (by omega)
    have : 2 ^ h ≤ 2 ^ 7 := Nat.pow_le_pow_right (by omega) (by omega)
    omega
  have S1w' : ∀ c, c ≤ 3 → (am_sub S1 2) c = (am_sub S 2) c := fun c hc => S1w (2 + c) (by omega) (by omega)
  by_cases hlb : len ≤ b
  · rw [if_pos hlb] at S1r S115
    -- the reference first
    have hor : 2 ^ o ||| 2 ^ h < 256 := by
      have := (bit_or (2 ^ o) hpo.1 h (by omega)).2
      exact this
    have tb : ∀ j, (2 ^ o ||| 2 ^ h).testBit j = true ↔ (o = j ∨ h = j) := fun j => by
      rw [Nat.testBit_or, Bool.or_eq_true, Nat.testBit_two_pow, Nat.testBit_two_pow, decide_eq_true_iff, decide_eq_true_iff]
    -- whatever the reference's state is in which o goes on
    have mk : ∀ g s, owM g (σa 15) h → ∃ σc, σc = sC (stM σa g s) 15 (rcM g o v val (nI h)) ∧ pend n τ S1 σc N m kd nx ot G o u := by
      intro g s hg
      refine ⟨_, rfl, ?_⟩
      have hbc : rB n τ S1 (sC (stM σa g s) 15 (rcM g o v val (nI h))) N m kd nx ot G := rB_congr (S := S1) (σ := σa) (fun _ _ _ => rfl) rfl rfl (fun c q1 q2 => by
        rw [sC_ne (by omega)]
        unfold stM
        rw [sC_ne (by omega), sC_ne (by omega)]) rfl rfl hba
      refine rec_pend (S := S) (σ := σ) (v := v) (val := val) (src := nI h) hv hu hbc (fun j _ => by rw [S1r]) (fun j hj => ?_)
      show rcM g o v val (nI h) (8 * o + j) = _
      unfold rcM upd
      rw [hg (8 * o + j) (by omega), r15]
    obtain ⟨g0, s0, hg0, -⟩ : ∃ g s, owM g (σa 15) h ∧ ∃ x : Nat, x = 0 := ⟨σa 15, σa 16, fun _ _ => rfl, 0, rfl⟩
    obtain ⟨σc0, -, pc0⟩ := mk g0 s0 hg0
    obtain ⟨f, st, c1, c2, c3⟩ := goOn_cl n hn (τ := τ) (N := N) (kd := kd) (nx := nx) (ot := ot) (G := G) (show 0 < m by omega) m8 hba.2.2.2.2.1 hor S115 (fun j hj hjb => by
      rcases (tb j).mp hjb with e | e
      · subst e; exact ⟨σc0, u, pc0⟩
      · subst e; exact ⟨σa, t, p1⟩)
    obtain ⟨g, s, d1, d2, d3, t', d4, d5, d6⟩ := c3 h hh ((tb h).mpr (Or.inr rfl)) σa t p1
    obtain ⟨σc, hσc, pc⟩ := mk g s d2
    obtain ⟨g2, s2, e1, e2, e3, u', e4, e5, e6⟩ := c3 o ho ((tb o).mpr (Or.inl rfl)) σc u pc
    have hc15 : σc 15 = rcM g o v val (nI h) := by rw [hσc]
    have hhas := has_eq n (R := stM σa g s) (h := o) (t := u) (v := v) (b := b) (sz := len) (src := nI h) (val := val) (by omega) (by omega) (by
      show g _ = _
      rw [d2 _ (by omega), r15]
      exact hu.2.2.2.2.1) hv (by
      show σa 9 u = _
      rw [σac 9 (by omega) (by omega)]
      exact hv9) hbb (by
      show σa 10 u = _
      rw [σac 10 (by omega) (by omega)]
      exact hb10) hlen
    rw [if_pos hlb] at hhas
    have hhas' : X8_has n (stM σa g s) (nI o) (nI h) val (nI len) = some (stM σc g2 s2) := by
      rw [hhas, ← e1, hσc]
      rfl
    have σ'c : ∀ c, c ≠ 15 → c ≠ 16 → (stM σc g2 s2) c = σa c := fun c h1 h2 => by
      unfold stM
      rw [sC_ne h2, sC_ne h1, hσc, sC_ne h1]
      unfold stM
      rw [sC_ne h2, sC_ne h1]
    -- rows of the end
    have g2o : ∀ x, x < 64 → ¬ (8 * o ≤ x ∧ x < 8 * o + 8) → g2 x = g x := fun x hx hxo => by
      rw [e2 x hxo, hc15]
      unfold rcM
      rw [upd_ne (by omega), upd_ne (by omega)]
    have g2w : ∀ x, 64 ≤ x → g2 x = σ 15 x := fun x hx => by
      rw [e2 x (by omega), hc15]
      unfold rcM
      rw [upd_ne (by omega), upd_ne (by omega), d2 x (by omega), r15]
    have g2r : ∀ x, x < 64 → ¬ (8 * o ≤ x ∧ x < 8 * o + 8) → ¬ (8 * h ≤ x ∧ x < 8 * h + 8) → g2 x = σ 15 x := fun x h1 h2 h3 => by
      rw [g2o x h1 h2, d2 x h3, r15]
    have ff : ∀ j, j < m → j ≠ h → j ≠ o → ∀ i, i < 13 → f (13 * j + i) = S 1 (13 * j + i) := fun j hj h1 h2 i hi => by
      rw [c2 _ (fun q q1 q2 => by
        rcases (tb q).mp q2 with e | e <;> subst e <;> omega)]
      exact S1o _ (by omega)
    refine ⟨sC (stS S1 f st) 0 (am_u (S1 0) 15 0), stM σc g2 s2, c1, by rw [d1]; exact hhas', ?_, ⟨fun j hj => ?_, ?_, fun k hk => ?_⟩, rfl, fun j h1 h2 => ?_, ?_, by omega, fun B hB hc => ?_, fun c hc => ?_, fun k hk => ?_, fun c h1 h2 => ?_, fun k hk => ?_, ?_⟩
    · refine rB_congr (S := S1) (σ := σa) (fun c q1 q2 => ?_) rfl rfl (fun c q1 q2 => σ'c c (by omega) (by omega)) (by rw [σ'c 0 (by omega) (by omega)]) (by rw [σ'c 0 (by omega) (by omega)]) hba
      rw [sC_ne (by omega)]
      unfold stS
      rw [sC_ne (by omega), sC_ne (by omega)]
    · by_cases eo : j = o
      · subst eo
        exact rHD_congr (S := stS S1 f st) (σ := stM σc g2 s2) (by omega) (fun _ _ => rfl) (fun _ _ => rfl) e3
      · by_cases eh : j = h
        · subst eh
          exact rHD_congr (S := stS S1 f st) (σ := stM σa g s) (by omega) (fun _ _ => rfl) (fun i hi => g2o _ (by omega) (by omega)) d3
        · exact rHD_congr (S := S) (σ := σ) (by omega) (ff j hj eh eo) (fun i hi => g2r _ (by omega) (by omega) (by omega)) (hq.1 j hj)
    · refine rW_congr (σw := am_sub S 2) (σ := σ) (fun c hc => ?_) (fun x hx => g2w x hx) hq.2.1
      rw [← S1w' c hc]
      rcases (show c = 0 ∨ c = 1 ∨ c = 2 ∨ c = 3 by omega) with rfl | rfl | rfl | rfl <;> rfl
    · show g2 _ ≠ g2 _
      rw [g2w _ (by omega), g2w _ (by omega)]
      exact hq.2.2 k hk
    · show g2 j = 0
      rw [g2r j h2 (by omega) (by omega)]
      exact hz j h1 h2
    · refine sumF_lt m (fun j hj => ?_) ⟨h, hh, ?_⟩
      · by_cases eo : j = o
        · subst eo
          rw [ph_act hN4 hu]
          unfold ph
          show u ≤ ps N (f (13 * j + 0)) + _
          rw [e6, ps_tgt hN4 e5]
          omega
        · by_cases eh : j = h
          · subst eh
            rw [ph_act hN4 ha]
            unfold ph
            show t ≤ ps N (f (13 * j + 0)) + _
            rw [d6, ps_tgt hN4 d5]
            omega
          · rw [ph_congr (S := S) (S' := sC (stS S1 f st) 0 (am_u (S1 0) 15 0)) (ff j hj eh eo 0 (by omega)) (ff j hj eh eo 1 (by omega))]
            exact Nat.le_refl _
      · rw [ph_act hN4 ha]
        unfold ph
        show t < ps N (f (13 * h + 0)) + _
        rw [d6, ps_tgt hN4 d5]
        omega
    · obtain ⟨r1, r2, r3, r4, r5, r6⟩ := hclk B hB hc
      unfold rClk
      rw [σ'c 17 (by omega) (by omega), σ'c 18 (by omega) (by omega), σ'c 19 (by omega) (by omega), σ'c 20 (by omega) (by omega), σ'c 0 (by omega) (by omega)]
      exact ⟨r1, r2, r3, r4, r5, r6⟩
    · rw [sC_ne (by omega)]
      unfold stS
      rw [sC_ne (by omega), sC_ne (by omega)]
      exact S1c c hc
    · rw [show (sC (stS S1 f st) 0 (am_u (S1 0) 15 0)) 0 k = am_u (S1 0) 15 0 k from rfl, am_u_ne (by omega)]
      exact S1f k (by omega)
    · rw [σ'c c (by omega) (by omega)]
      exact σac c h1 (by omega)
    · rw [σ'c 0 (by omega) (by omega)]
      exact σaf k hk
    · unfold anyR
      rw [σ'c 0 (by omega) (by omega)]
      exact hany
  · rw [if_neg hlb] at S1r S115
    have tb : ∀ j, (2 ^ h).testBit j = true ↔ h = j := fun j => by
      rw [Nat.testBit_two_pow, decide_eq_true_iff]
    obtain ⟨f, st, c1, c2, c3⟩ := goOn_cl n hn (τ := τ) (N := N) (kd := kd) (nx := nx) (ot := ot) (G := G) (show 0 < m by omega) m8 hba.2.2.2.2.1 hpo.2 S115 (fun j hj hjb => by
      have e := (tb j).mp hjb
      subst e; exact ⟨σa, t, p1⟩)
    obtain ⟨g, s, d1, d2, d3, t', d4, d5, d6⟩ := c3 h hh ((tb h).mpr rfl) σa t p1
    have hhas := has_eq n (R := stM σa g s) (h := o) (t := u) (v := v) (b := b) (sz := len) (src := nI h) (val := val) (by omega) (by omega) (by
      show g _ = _
      rw [d2 _ (by omega), r15]
      exact hu.2.2.2.2.1) hv (by
      show σa 9 u = _
      rw [σac 9 (by omega) (by omega)]
      exact hv9) hbb (by
      show σa 10 u = _
      rw [σac 10 (by omega) (by omega)]
      exact hb10) hlen
    rw [if_neg hlb] at hhas
    obtain ⟨g2, hg2⟩ : ∃ g2, g2 = upd (rcM g o v val (nI h)) (8 * o + 1) 1 := ⟨_, rfl⟩
    have hhas' : X8_has n (stM σa g s) (nI o) (nI h) val (nI len) = some (sC (stM σa g s) 15 g2) := by
      rw [hhas, hg2]
      rfl
    have σ'c : ∀ c, c ≠ 15 → c ≠ 16 → (sC (stM σa g s) 15 g2) c = σa c := fun c h1 h2 => by
      rw [sC_ne h1]
      unfold stM
      rw [sC_ne h2, sC_ne h1]
    have g2o : ∀ x, ¬ (8 * o ≤ x ∧ x < 8 * o + 8) → g2 x = g x := fun x hxo => by
      rw [hg2]
      unfold rcM
      rw [upd_ne (by omega), upd_ne (by omega), upd_ne (by omega)]
    have g2w : ∀ x, 64 ≤ x → g2 x = σ 15 x := fun x hx => by
      rw [g2o x (by omega), d2 x (by omega), r15]
    have g2r : ∀ x, x < 64 → ¬ (8 * o ≤ x ∧ x < 8 * o + 8) → ¬ (8 * h ≤ x ∧ x < 8 * h + 8) → g2 x = σ 15 x := fun x h1 h2 h3 => by
      rw [g2o x h2, d2 x h3, r15]
    have fS1 : ∀ j, j < m → j ≠ h → ∀ i, i < 13 → f (13 * j + i) = S1 1 (13 * j + i) := fun j hj h1 i hi => by
      rw [c2 _ (fun q q1 q2 => by
        have e := (tb q).mp q2
        subst e
        omega)]
    have ff : ∀ j, j < m → j ≠ h → j ≠ o → ∀ i, i < 13 → f (13 * j + i) = S 1 (13 * j + i) := fun j hj h1 h2 i hi => by
      rw [fS1 j hj h1 i hi]
      exact S1o _ (by omega)
    obtain ⟨w1, w2⟩ := rec_stop (S := S) (σ := σ) (S1 := sC (stS S1 f st) 0 (am_u (S1 0) 15 0)) (σ1 := sC (stM σa g s) 15 g2) (v := v) (val := val) (src := nI h) hN4 hv hu (fun j hj => by
      show f _ = _
      rw [fS1 o ho hoh j hj, S1r]) (fun j hj => by
      show g2 _ = _
      rw [hg2]
      unfold rcM upd
      rw [d2 (8 * o + j) (by omega), r15])
    refine ⟨sC (stS S1 f st) 0 (am_u (S1 0) 15 0), sC (stM σa g s) 15 g2, c1, by rw [d1]; exact hhas', ?_, ⟨fun j hj => ?_, ?_, fun k hk => ?_⟩, rfl, fun j h1 h2 => ?_, ?_, by omega, fun B hB hc => ?_, fun c hc => ?_, fun k hk => ?_, fun c h1 h2 => ?_, fun k hk => ?_, ?_⟩
    · refine rB_congr (S := S1) (σ := σa) (fun c q1 q2 => ?_) rfl rfl (fun c q1 q2 => σ'c c (by omega) (by omega)) (by rw [σ'c 0 (by omega) (by omega)]) (by rw [σ'c 0 (by omega) (by omega)]) hba
      rw [sC_ne (by omega)]
      unfold stS
      rw [sC_ne (by omega), sC_ne (by omega)]
    · by_cases eo : j = o
      · subst eo
        exact w1
      · by_cases eh : j = h
        · subst eh
          exact rHD_congr (S := stS S1 f st) (σ := stM σa g s) (by omega) (fun _ _ => rfl) (fun i hi => g2o _ (by omega)) d3
        · exact rHD_congr (S := S) (σ := σ) (by omega) (ff j hj eh eo) (fun i hi => g2r _ (by omega) (by omega) (by omega)) (hq.1 j hj)
    · refine rW_congr (σw := am_sub S 2) (σ := σ) (fun c hc => ?_) (fun x hx => g2w x hx) hq.2.1
      rw [← S1w' c hc]
      rcases (show c = 0 ∨ c = 1 ∨ c = 2 ∨ c = 3 by omega) with rfl | rfl | rfl | rfl <;> rfl
    · show g2 _ ≠ g2 _
      rw [g2w _ (by omega), g2w _ (by omega)]
      exact hq.2.2 k hk
    · show g2 j = 0
      rw [g2r j h2 (by omega) (by omega)]
      exact hz j h1 h2
    · refine sumF_lt m (fun j hj => ?_) ⟨h, hh, ?_⟩
      · by_cases eo : j = o
        · subst eo
          rw [ph_act hN4 hu, w2]
          omega
        · by_cases eh : j = h
          · subst eh
            rw [ph_act hN4 ha]
            unfold ph
            show t ≤ ps N (f (13 * j + 0)) + _
            rw [d6, ps_tgt hN4 d5]
            omega
          · rw [ph_congr (S := S) (S' := sC (stS S1 f st) 0 (am_u (S1 0) 15 0)) (ff j hj eh eo 0 (by omega)) (ff j hj eh eo 1 (by omega))]
            exact Nat.le_refl _
      · rw [ph_act hN4 ha]
        unfold ph
        show t < ps N (f (13 * h + 0)) + _
        rw [d6, ps_tgt hN4 d5]
        omega
    · obtain ⟨r1, r2, r3, r4, r5, r6⟩ := hclk B hB hc
      unfold rClk
      rw [σ'c 17 (by omega) (by omega), σ'c 18 (by omega) (by omega), σ'c 19 (by omega) (by omega), σ'c 20 (by omega) (by omega), σ'c 0 (by omega) (by omega)]
      exact ⟨r1, r2, r3, r4, r5, r6⟩
    · rw [sC_ne (by omega)]
      unfold stS
      rw [sC_ne (by omega), sC_ne (by omega)]
      exact S1c c hc
    · rw [show (sC (stS S1 f st) 0 (am_u (S1 0) 15 0)) 0 k = am_u (S1 0) 15 0 k from rfl, am_u_ne (by omega)]
      exact S1f k (by omega)
    · rw [σ'c c (by omega) (by omega)]
      exact σac c h1 (by omega)
    · rw [σ'c 0 (by omega) (by omega)]
      exact σaf k hk
    · unfold anyR
      rw [σ'c 0 (by omega) (by omega)]
      exact hany
